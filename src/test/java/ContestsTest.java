/** Promises 27 to 33: hoops, odds, contests, hours, flights that were seen, makes that were found. */
public final class ContestsTest {
    private static final Check check = new Check();

    public static void main(String[] args) {
        hoop();
        wrongHoop();
        hoopBounds();
        hoopTerms();

        odds();
        oddsTerms();

        enter();
        noSuchWayOrHand();
        entryTerms();

        wins();
        noSuchEntry();
        winsTerms();
        noWins();

        hours();
        noHours();
        creep();
        hoursTerms();

        seen();
        wrongSeen();
        seenTerms();

        found();
        noFound();
        foundTerms();
        check.end();
    }

    // ---- promise 27

    private static void hoop() {
        check.says(27, "Whether a FLIGHT goes through a HOOP.");
        DartHangar h = Check.hangar("");
        for (int e = -9; e <= 9; e += 3) {
            // X and Y behind each TICK tell it: HOOPS 300 high at every 50.
            for (int x = 50; x <= 1500; x += 290) {
                for (int y = 0; y <= 2400; y += 300) {
                    boolean want = false;
                    int lasted = h.fly(1, e, 150, 2, 1);
                    for (int t = 1; t <= lasted && !want; t++) {
                        int at = h.at(1, e, 150, 2, t, 1);
                        want = h.at(1, e, 150, 2, t - 1, 0) < x && h.at(1, e, 150, 2, t, 0) >= x && at >= y && at <= y + 299;
                    }
                    check.due(want, h.hoop(1, e, 150, 2, x, y, y + 299), "hoop(1, " + e + ", 150, 2, " + x + ", " + y + ", " + (y + 299) + ")");
                }
            }
        }
    }

    private static void wrongHoop() {
        check.says(27, "IllegalArgumentException: also x, y, the first y above the second.");
        DartHangar h = Check.hands(Check.STONE);
        int[][] wrong = {{0, 0, 5}, {100000, 0, 5}, {5, -1, 5}, {5, 0, 10000}, {5, 6, 5}, {5, 10000, 10000}, {5, -1, -1}, {5, 9999, 0}, {-5, 0, 0}};
        for (int[] a : wrong) {
            check.refused(Check.ARGUMENT, "hoop(.. " + a[0] + ", " + a[1] + ", " + a[2] + ")", () -> h.hoop(0, 0, 100, 0, a[0], a[1], a[2]));
        }
        for (int wild : Check.WILD) {
            check.refused(Check.ARGUMENT, "x " + wild, () -> h.hoop(0, 0, 100, 0, wild, 0, 5));
            check.refused(Check.ARGUMENT, "the first y " + wild, () -> h.hoop(0, 0, 100, 0, 5, wild, 5));
            check.refused(Check.ARGUMENT, "the second y " + wild, () -> h.hoop(0, 0, 100, 0, 5, 0, wild));
            check.refused(Check.ARGUMENT, "EARS " + wild, () -> h.hoop(0, wild, 100, 0, 5, 0, 5));
            check.refused(Check.ARGUMENT, "SPEED " + wild, () -> h.hoop(0, 0, wild, 0, 5, 0, 5));
            check.refused(Check.ARGUMENT, "SLANT " + wild, () -> h.hoop(0, 0, 100, wild, 5, 0, 5));
        }
        check.refused(Check.ARGUMENT, "hoop with EARS 10", () -> h.hoop(0, 10, 100, 0, 1, 0, 1));
        check.refused(Check.ARGUMENT, "hoop with EARS -10", () -> h.hoop(0, -10, 100, 0, 1, 0, 1));
        check.refused(Check.ARGUMENT, "hoop with SPEED 9", () -> h.hoop(0, 0, 9, 0, 1, 0, 1));
        check.refused(Check.ARGUMENT, "hoop with SPEED 1000", () -> h.hoop(0, 0, 1000, 0, 1, 0, 1));
        check.refused(Check.ARGUMENT, "hoop with SLANT -17", () -> h.hoop(0, 0, 10, -17, 1, 0, 1));
        check.refused(Check.ARGUMENT, "hoop with SLANT 17", () -> h.hoop(0, 0, 10, 17, 1, 0, 1));
    }

    private static void hoopBounds() {
        check.says(27, "A HOOP at x (1 to 99999), from y to y (0 to 9999)");
        DartHangar h = Check.hangar(Check.STONE);
        check.due(true, h.hoop(0, 0, 100, 0, 1, 0, 9999), "the least x");
        check.due(false, h.hoop(0, 0, 100, 0, 99999, 0, 9999), "the greatest x");
        check.due(false, h.hoop(0, 0, 100, 0, 1, 0, 0), "the least y");
        check.due(false, h.hoop(0, 0, 100, 0, 1, 9999, 9999), "the greatest y");
        // Far away, and there: X 99999 in TICK 101 of 999 (Y 2000), and Y 0 where it LANDED.
        DartHangar on = Check.hangar(Check.STONE);
        on.draught(1, 200, 10);
        check.due(true, on.hoop(0, 0, 999, 0, 99999, 2000, 2000), "through the greatest x");
        DartHangar ground = Check.hangar(Check.STONE + "pull 40;");
        ground.draught(1, 1, -20);
        ground.draught(9, 9, -20);
        check.due(true, ground.hoop(0, 0, 100, 0, 900, 0, 0), "through y 0 where it LANDED");
        check.due(false, ground.hoop(0, 0, 100, 0, 900, 1, 9999), "above y 0 where it LANDED");
    }

    private static void hoopTerms() {
        check.says(27, "a FLIGHT goes through it, if in a TICK X goes from below x to x or more, Y then being from the one to the other.");
        DartHangar h = Check.hangar(Check.STONE);
        // Behind TICK 9: X 900, Y 1550; behind TICK 10: X 1000, Y 1450; behind TICK 20: X 2000, Y -100.
        check.due(true, h.hoop(0, 0, 100, 0, 1000, 1450, 1450), "at 1000");
        check.due(false, h.hoop(0, 0, 100, 0, 1000, 1451, 9999), "below it");
        check.due(false, h.hoop(0, 0, 100, 0, 1000, 0, 1449), "above it");
        check.due(true, h.hoop(0, 0, 100, 0, 901, 1450, 9999), "from 901");
        check.due(true, h.hoop(0, 0, 100, 0, 1000, 0, 1450), "to its upper end");
        check.due(false, h.hoop(0, 0, 100, 0, 900, 1450, 1450), "900 is reached a TICK before");
        check.due(true, h.hoop(0, 0, 100, 0, 900, 1550, 1550), "900, a TICK before");
        check.due(false, h.hoop(0, 0, 100, 0, 1001, 1450, 1450), "1001 is reached a TICK later");
        check.due(false, h.hoop(0, 0, 100, 0, 2000, 0, 9999), "below the floor");
        check.due(false, h.hoop(0, 0, 100, 0, 2001, 0, 9999), "behind the end");
        check.due(false, h.hoop(0, 0, 100, 16, 1, 0, 9999), "straight up");
        // A CRATE ends it: at its x, no further.
        h.crate(950, 9999);
        check.due(true, h.hoop(0, 0, 100, 0, 950, 0, 9999), "a CRATE at the HOOP");
        check.due(true, h.hoop(0, 0, 100, 0, 949, 0, 9999), "a CRATE behind the HOOP, in the same TICK");
        check.due(false, h.hoop(0, 0, 100, 0, 951, 0, 9999), "a CRATE ahead of the HOOP, in the same TICK");
        check.due(false, h.hoop(0, 0, 100, 0, 1001, 0, 9999), "a CRATE ahead of the HOOP");
        h.still();
        h.draught(1, 200, 10);
        check.due(true, h.hoop(0, 0, 100, 0, 20000, 2000, 2000), "in TICK 200");
        check.due(false, h.hoop(0, 0, 100, 0, 20001, 2000, 2000), "in TICK 201");
        backThroughAHoop();
    }

    /** Over the HOOP forwards, at 2000; back at its height, which does not count; see FlightsTest for the same past a CRATE. */
    private static void backThroughAHoop() {
        DartHangar h = Check.hangar("turn 0;thin 1;lift 0 0 0 0 0 0 0 0 0;drag 0 20 0 0 0 0 0 0 0;");
        h.draught(1, 200, 10);
        h.draught(3, 3, -6);
        h.draught(4, 4, -20);
        check.due(132, h.at(0, 0, 98, 0, 5, 0), "X behind TICK 5, back from 213");
        check.due(1976, h.at(0, 0, 98, 0, 5, 1), "Y behind TICK 5");
        check.due(false, h.hoop(0, 0, 98, 0, 150, 1970, 1980), "backwards");
        check.due(true, h.hoop(0, 0, 98, 0, 150, 2000, 2000), "forwards");
    }

    // ---- promise 28

    private static void odds() {
        check.says(28, "ODDS of n tries by a HAND; IllegalArgumentException: EARS, n, the HOOP.");
        DartHangar h = Check.hands(Check.STONE);
        check.due(2, h.odds(0, 0, 0, 1, 1000, 1400, 1500), "ODDS of one try");
        check.refused(Check.ARGUMENT, "odds of 0 tries", () -> h.odds(0, 0, 0, 0, 1, 0, 1));
        check.refused(Check.ARGUMENT, "odds of 5 tries", () -> h.odds(0, 0, 0, 5, 1, 0, 1));
        check.refused(Check.ARGUMENT, "odds with EARS 10", () -> h.odds(0, 10, 0, 1, 1, 0, 1));
        check.refused(Check.ARGUMENT, "odds with EARS -10", () -> h.odds(0, -10, 0, 1, 1, 0, 1));
        int[][] wrong = {{0, 0, 5}, {100000, 0, 5}, {5, -1, 5}, {5, 0, 10000}, {5, 6, 5}, {5, 10000, 10000}};
        for (int[] a : wrong) {
            check.refused(Check.ARGUMENT, "odds(.. " + a[0] + ", " + a[1] + ", " + a[2] + ")", () -> h.odds(0, 0, 0, 1, a[0], a[1], a[2]));
            check.refused(Check.ARGUMENT, "the same by a HAND without THROWS", () -> h.odds(0, 0, 1, 1, a[0], a[1], a[2]));
        }
        for (int wild : Check.WILD) {
            check.refused(Check.ARGUMENT, "n " + wild, () -> h.odds(0, 0, 0, wild, 5, 0, 5));
            check.refused(Check.ARGUMENT, "EARS " + wild, () -> h.odds(0, wild, 0, 1, 5, 0, 5));
            check.refused(Check.ARGUMENT, "x " + wild, () -> h.odds(0, 0, 0, 1, wild, 0, 5));
            check.refused(Check.ARGUMENT, "the first y " + wild, () -> h.odds(0, 0, 0, 1, 5, wild, 5));
            check.refused(Check.ARGUMENT, "the second y " + wild, () -> h.odds(0, 0, 0, 1, 5, 0, wild));
        }
    }

    private static void oddsTerms() {
        check.says(28, "ODDS of n tries (1 to 4) by a HAND: all chances together multiplied n times, less so the chances of those that don't go through.");
        DartHangar h = Check.hands(Check.STONE);
        h.toss(0, 100, 0, 9);
        h.toss(0, 100, -16, 4);
        // 11 of 16 go through.
        long[] want = {0, 11, 256 - 25, 4096 - 125, 65536 - 625};
        for (int n = 1; n <= 4; n++) {
            check.due(want[n], h.odds(0, 0, 0, n, 1000, 1450, 1450), "ODDS of " + n + " tries");
            check.due(0, h.odds(0, 0, 0, n, 1000, 1451, 1460), "none goes through");
            check.due(0, h.odds(0, 0, 1, n, 1000, 1450, 1450), "no THROWS");
        }
        // All go through: the most there can be.
        DartHangar all = Check.hangar(Check.STONE);
        all.hand();
        for (int i = 0; i < 4; i++) {
            all.toss(0, 100, 0, 9);
        }
        check.due(36 * 36 * 36 * 36, all.odds(0, 0, 0, 4, 1000, 1450, 1450), "all go through");
    }

    // ---- promise 29

    private static void enter() {
        check.says(29, "An ENTRY more: its number; NONE if there are 4.");
        DartHangar h = Check.hands(Check.STONE);
        for (int i = 0; i < 4; i++) {
            check.due(i, h.enter(0, 0, 0), "number of an ENTRY");
            check.due(i + 1, h.count(12), "ENTRIES");
        }
        check.due(-1, h.enter(0, 0, 0), "a fifth ENTRY");
        check.due(4, h.count(12), "ENTRIES then");
        check.refused(Check.NO_ELEMENT, "wins(4)", () -> h.wins(4));
    }

    private static void noSuchWayOrHand() {
        check.says(29, "NoSuchElementException: no such WAY, HAND; IllegalArgumentException: EARS.");
        DartHangar h = Check.hands(Check.STONE);
        check.refused(Check.NO_ELEMENT, "no such WAY, wrong EARS", () -> h.enter(3, 10, 0));
        check.refused(Check.NO_ELEMENT, "WAY -1", () -> h.enter(-1, 0, 0));
        check.refused(Check.NO_ELEMENT, "no such HAND, wrong EARS", () -> h.enter(0, 10, 2));
        check.refused(Check.NO_ELEMENT, "HAND -1", () -> h.enter(0, 0, -1));
        check.refused(Check.ARGUMENT, "EARS 10", () -> h.enter(0, 10, 0));
        check.refused(Check.ARGUMENT, "EARS -10", () -> h.enter(0, -10, 0));
        for (int wild : Check.WILD) {
            check.refused(Check.NO_ELEMENT, "WAY " + wild, () -> h.enter(wild, 0, 0));
            check.refused(Check.NO_ELEMENT, "HAND " + wild, () -> h.enter(0, 0, wild));
            check.refused(Check.ARGUMENT, "EARS " + wild, () -> h.enter(0, wild, 0));
        }
        check.due(0, h.count(12), "ENTRIES behind refused ones");
        // Without a MAKE or without THROWS it may be entered.
        check.due(0, h.enter(2, -9, 1), "an ENTRY without a MAKE, by a HAND without THROWS");
        check.due(1, h.enter(1, 9, 1), "an ENTRY with EARS 9");
        h.enter(0, 0, 0);
        h.enter(0, 0, 0);
        check.refused(Check.ARGUMENT, "a fifth ENTRY with EARS 10", () -> h.enter(0, 10, 0));
        check.refused(Check.NO_ELEMENT, "a fifth ENTRY of no WAY", () -> h.enter(3, 0, 0));
    }

    private static void entryTerms() {
        check.says(29, "CONTEST: ENTRIES, at most 4, numbered as they come: a WAY, EARS, a HAND; each throws once, by chance.");
        DartHangar h = Check.hands("");
        // One WAY, one HAND, EARS that reach another FAR each: the ENTRY keeps them apart.
        h.hand();
        h.toss(2, 200, 2, 3);
        int[] ears = {-4, 0, 4, 8};
        int best = 0;
        for (int i = 0; i < 4; i++) {
            check.due(i, h.enter(1, ears[i], 2), "number of an ENTRY");
            best = h.fly(1, ears[i], 200, 2, 0) > h.fly(1, ears[best], 200, 2, 0) ? i : best;
        }
        for (int i = 0; i < 4; i++) {
            check.due(i == best ? 81 : 0, h.wins(i), "WINS of ENTRY " + i);
        }
    }

    // ---- promise 30

    private static void wins() {
        check.says(30, "WINS of an ENTRY.");
        DartHangar h = Check.hands(Check.STONE);
        h.enter(0, 0, 0);
        // HAND 1: 100 at 0 (3: FAR 2000), 50 at 0 (5: FAR 1000). HAND 0: FAR 2000 (2), 0 (1).
        h.toss(1, 100, 0, 3);
        h.toss(1, 50, 0, 5);
        h.enter(1, 0, 1);
        check.due(2 * 5, h.wins(0), "wins(0) of two");
        check.due((3 + 5) * 1, h.wins(1), "wins(1) of two");
    }

    private static void noSuchEntry() {
        check.says(30, "NoSuchElementException: no such ENTRY.");
        DartHangar h = Check.hands(Check.STONE);
        check.refused(Check.NO_ELEMENT, "wins(0) of none", () -> h.wins(0));
        h.enter(0, 0, 0);
        check.due(3, h.wins(0), "wins(0) of one");
        check.refused(Check.NO_ELEMENT, "wins(1) of one", () -> h.wins(1));
        check.refused(Check.NO_ELEMENT, "wins(-1)", () -> h.wins(-1));
        for (int wild : Check.WILD) {
            check.refused(Check.NO_ELEMENT, "wins(" + wild + ")", () -> h.wins(wild));
        }
        h.enter(2, 0, 0);
        check.refused(Check.NO_ELEMENT, "wins(2) where one has no MAKE", () -> h.wins(2));
    }

    private static void winsTerms() {
        check.says(30, "WINS of one: of all rows of THROWS (each as often as its chances multiplied) those in which its FAR is above that of each other one");
        DartHangar h = Check.hands(Check.STONE);
        h.enter(0, 0, 0);
        check.due(3, h.wins(0), "one alone wins all its rows");
        h.toss(1, 100, 0, 3);
        h.toss(1, 50, 0, 5);
        h.enter(1, 0, 1);
        h.hand();
        h.toss(2, 200, 0, 9);
        h.toss(2, 10, -16, 7);
        // ENTRY 0: FAR 2000 (2), 0 (1). ENTRY 1: FAR 2000 (3), 1000 (5). ENTRY 2: FAR 4000 (9), 0 (7).
        h.enter(0, 0, 2);
        check.due(2 * 5 * 7, h.wins(0), "wins(0) of three");
        check.due(8 * 1 * 7, h.wins(1), "wins(1) of three");
        check.due(9 * 8 * 3, h.wins(2), "wins(2) of three");
        // A like FAR is not above: with a second ENTRY of the same kind neither wins those rows.
        h.enter(0, 0, 2);
        check.due(2 * 5 * 7 * 7, h.wins(0), "wins(0) of four");
        check.due(9 * 8 * 3 * 7, h.wins(2), "wins(2) of four");
        check.due(9 * 8 * 3 * 7, h.wins(3), "wins(3) of four");
        // The most: four ENTRIES of 36 chances each, the first one above all.
        DartHangar most = Check.hangar(Check.STONE);
        for (int hand = 0; hand < 4; hand++) {
            most.hand();
            for (int i = 0; i < 4; i++) {
                most.toss(hand, hand == 0 ? 200 : 100, 0, 9);
            }
            most.enter(0, 0, hand);
        }
        check.due(36 * 36 * 36 * 36, most.wins(0), "WINS of all rows");
        check.due(0, most.wins(3), "WINS of the last one");
    }

    private static void noWins() {
        check.says(30, "none where a WAY of one has no MAKE, or a HAND no THROWS.");
        DartHangar h = Check.hands(Check.STONE);
        h.enter(0, 0, 0);
        h.image(0);
        h.enter(0, 0, 1);
        check.due(0, h.wins(0), "a HAND without THROWS");
        check.due(0, h.wins(1), "a HAND without THROWS itself");
        h.toss(1, 50, 0, 4);
        check.due(2 * 4, h.wins(0), "that HAND with a THROW");
        h.restore(0);
        h.enter(2, 0, 0);
        check.due(0, h.wins(0), "a WAY without a MAKE");
        check.due(0, h.wins(1), "a WAY without a MAKE itself");
        h.sheet(10, 6);
        check.due(2 * 1, h.wins(0), "a SHEET that gives it one");
        h.restore(0);
        h.enter(1, 0, 0);
        h.tray(0, 0, 0);
        h.take(0, 0);
        check.due(0, h.wins(0), "THROWS that were taken away");
        // A WAY without a MAKE and a HAND without THROWS that no ENTRY has do no harm.
        DartHangar others = new DartHangar();
        Check.law(others, Check.STONE);
        Check.way(others, "nose 5;");
        Check.way(others, "nose 2;");
        others.hand();
        others.hand();
        others.toss(1, 100, 0, 4);
        others.enter(1, 0, 1);
        check.due(4, others.wins(0), "WINS beside a WAY without a MAKE");
    }

    // ---- promise 31

    private static void hours() {
        check.says(31, "HOURS of a limit");
        DartHangar h = Check.hands("");
        for (int e = -9; e <= 9; e += 3) {
            for (int limit = 100; limit < 6000; limit += 570) {
                int want = -1;
                for (int hour = 18; hour >= 0; hour--) {
                    int left = Math.max(0, Math.abs(e) - hour / 2);
                    want = h.reach(1, e < 0 ? -left : left, 0, false) < limit ? hour : want;
                }
                check.due(want, h.hours(1, e, 0, false, limit), "hours(1, " + e + ", 0, false, " + limit + ")");
            }
        }
        check.refused(Check.ARGUMENT, "hours with EARS 10", () -> h.hours(0, 10, 0, true, 1));
        check.refused(Check.ARGUMENT, "hours with EARS -10", () -> h.hours(0, -10, 0, true, 1));
    }

    private static void noHours() {
        check.says(31, "NONE: none of them.");
        DartHangar h = Check.hands(Check.STONE);
        check.due(-1, h.hours(0, 9, 0, false, 4000), "REACH is never below 4000");
        check.due(-1, h.hours(0, -9, 0, true, 72), "REACH, long, is never below 72");
        check.due(-1, h.hours(0, 0, 1, true, 0), "no THROWS: 0 is not below 0");
        check.due(-1, h.hours(0, 0, 0, true, Long.MIN_VALUE), "the least limit");
    }

    /** EARS 0 alone have a REACH below that of all others: drag slows a nose that stays level. */
    private static DartHangar levelIsWorst() {
        DartHangar h = Check.hangar("lift 0 0 0 0 0 0 0 0 0;drag 9 0 0 0 0 0 0 0 0;turn 99;slow 0;pull 1;");
        h.hand();
        h.toss(0, 200, 0, 1);
        return h;
    }

    private static void creep() {
        check.says(31, "CREEP: behind h HOURS EARS are h by 2 nearer to 0 (0 at least without sign).");
        DartHangar h = levelIsWorst();
        long level = h.reach(0, 0, 0, false);
        for (int e = 1; e <= 9; e++) {
            check.due(true, h.reach(0, e, 0, false) > level, "EARS " + e + " are better than 0");
            check.due(true, h.reach(0, -e, 0, false) > level, "EARS " + -e + " are better than 0");
            // They are at 0 behind 2 e HOURS, from both sides, and stay there.
            check.due(2 * e, h.hours(0, e, 0, false, level + 1), "HOURS until EARS " + e + " are at 0");
            check.due(2 * e, h.hours(0, -e, 0, false, level + 1), "HOURS until EARS " + -e + " are at 0");
        }
        check.due(0, h.hours(0, 0, 0, false, level + 1), "HOURS of EARS 0");
        // No further than 0: were they to go on, they would come to EARS with a lesser REACH.
        DartHangar one = Check.hangar("");
        one.hand();
        one.toss(0, 180, 4, 1);
        for (int sign = -1; sign <= 1; sign += 2) {
            long least = Math.min(one.reach(1, 0, 0, false), one.reach(1, sign, 0, false));
            boolean lesser = false;
            for (int e = 1; e <= 8; e++) {
                lesser |= one.reach(1, -sign * e, 0, false) < least;
            }
            check.due(true, lesser, "beyond 0 there are EARS with a lesser REACH than from " + sign);
            check.due(-1, one.hours(1, sign, 0, false, least), "EARS " + sign + " go no further than 0");
        }
    }

    private static void hoursTerms() {
        check.says(31, "HOURS of a limit: the least h of 0 to 18 behind which REACH is below it.");
        DartHangar h = Check.hands(Check.STONE);
        check.due(0, h.hours(0, 9, 0, false, 4001), "4000 is below 4001 at once");
        check.due(-1, h.hours(0, 9, 0, false, 4000), "4000 is not below 4000");
        check.due(0, h.hours(0, -9, 0, true, 73), "72 is below 73 at once");
        check.due(0, h.hours(0, 0, 1, true, Long.MAX_VALUE), "the greatest limit");
        check.due(0, h.hours(0, 0, 1, true, 1), "no THROWS: 0 is below 1");
        DartHangar level = levelIsWorst();
        long limit = level.reach(0, 0, 0, false) + 1;
        check.due(18, level.hours(0, 9, 0, false, limit), "18 HOURS, the last ones");
        check.due(18, level.hours(0, -9, 0, false, limit), "18 HOURS, the last ones, from below");
        check.due(2, level.hours(0, 1, 0, false, limit), "the least h, not 3");
        // A limit beyond 32 bits.
        check.due(0, h.hours(0, 0, 0, false, 1L << 40), "a limit beyond all REACH");
        check.due(-1, h.hours(0, 0, 0, false, -(1L << 40)), "a limit below all REACH");
    }

    // ---- promise 32

    private static void seen() {
        check.says(32, "SEEN: a set of EARS.");
        DartHangar h = Check.hangar("");
        for (int e = -9; e <= 9; e += 2) {
            int far = h.fly(1, e, 300, 4, 0);
            int lasted = h.fly(1, e, 300, 4, 1);
            int want = 0;
            for (int k = -9; k <= 9; k++) {
                if (h.fly(1, k, 300, 4, 0) == far && h.fly(1, k, 300, 4, 1) == lasted) {
                    want |= 1 << (k + 9);
                }
            }
            check.due(want, h.seen(1, 300, 4, far, lasted), "EARS of what EARS " + e + " make");
        }
    }

    private static void wrongSeen() {
        check.says(32, "IllegalArgumentException: SPEED, SLANT.");
        DartHangar h = Check.hangar(Check.STONE);
        check.refused(Check.ARGUMENT, "seen with SPEED 9", () -> h.seen(0, 9, 0, 0, 0));
        check.refused(Check.ARGUMENT, "seen with SPEED 1000", () -> h.seen(0, 1000, 0, 0, 0));
        check.refused(Check.ARGUMENT, "seen with SLANT 17", () -> h.seen(0, 10, 17, 0, 0));
        check.refused(Check.ARGUMENT, "seen with SLANT -17", () -> h.seen(0, 10, -17, 0, 0));
        for (int wild : Check.WILD) {
            check.refused(Check.ARGUMENT, "seen with SPEED " + wild, () -> h.seen(0, wild, 0, 0, 0));
            check.refused(Check.ARGUMENT, "seen with SLANT " + wild, () -> h.seen(0, 100, wild, 0, 0));
            check.due(0, h.seen(0, 100, 0, wild, 20), "a FAR of " + wild);
            check.due(0, h.seen(0, 100, 0, 2000, wild), "a LONG of " + wild);
        }
    }

    private static void seenTerms() {
        check.says(32, "SEEN: a THROW, FAR and LONG: EARS (bits, 1 for -9, 2 for -8 ..) by which a MAKE would fly just so.");
        DartHangar h = Check.hangar(Check.STONE);
        check.due((1 << 19) - 1, h.seen(0, 100, 0, 2000, 20), "all EARS");
        check.due(0, h.seen(0, 100, 0, 2000, 19), "another LONG");
        check.due(0, h.seen(0, 100, 0, 2000, 21), "another LONG");
        check.due(0, h.seen(0, 100, 0, 1999, 20), "another FAR");
        check.due(0, h.seen(0, 100, 0, 2001, 20), "another FAR");
        check.due(0, h.seen(0, 100, 0, -1, -1), "none at all");
        // FAR and LONG of one another's: both have to be so.
        check.due(0, h.seen(0, 100, 0, 20, 2000), "FAR and LONG changed over");
        // A FAR that only the outermost EARS have.
        DartHangar apart = Check.hangar("turn 3;pull 3;");
        for (int e : new int[] {-9, -8, 0, 8, 9}) {
            int far = apart.fly(1, e, 200, 4, 0);
            int set = apart.seen(1, 200, 4, far, apart.fly(1, e, 200, 4, 1));
            check.due(1 << (e + 9), set & 1 << (e + 9), "the bit of EARS " + e);
            check.due(true, set < 1 << 19 && set > 0, "no bit beyond 9");
        }
    }

    // ---- promise 33

    private static void dueFound(DartHangar h, int area, int front, int... want) {
        for (int i = 0; i < 3; i++) {
            check.due(i < want.length ? want[i] : -1, h.found(area, front, i - 1), "found(" + area + ", " + front + ", " + (i - 1) + ")");
        }
    }

    private static void found() {
        check.says(33, "FOUND, i NONE: how many FOLDS, 0, 1: 100 times the KIND and N of one.");
        DartHangar h = new DartHangar();
        dueFound(h, 48, 384, 0);
        dueFound(h, 36, 240, 1, 2);
        // side 2: 8 ROWS of 4 COLUMNS; also two times side 1, but by more FOLDS.
        dueFound(h, 32, 384, 1, 102);
        // nose 1 (42 CELLS, 7 ROWS) and side 1 (7 by 5): G is that of nose 1: 2 in ROW 0: 6 (2 + 3 + .. + 13) = 300.
        dueFound(h, 35, 300, 2, 1, 101);
        Check.way(h, "nose 2;");
        h.found(35, 300, 0);
        check.due(2, h.fold(0, 0), "a WAY behind found");
        check.due(1, h.count(0), "WAYS behind found");
    }

    private static void noFound() {
        check.says(33, "NONE: there are none, not so many.");
        DartHangar h = new DartHangar();
        dueFound(h, 1, 1, -1);
        dueFound(h, 48, 385, -1);
        dueFound(h, 47, 384, -1);
        dueFound(h, 0, 0, -1);
        for (int wild : Check.WILD) {
            dueFound(h, wild, 384, -1);
            dueFound(h, 48, wild, -1);
            check.due(-1, h.found(48, 384, wild), "FOLD " + wild + " of none");
            check.due(-1, h.found(36, 240, wild), "FOLD " + wild + " of one");
            check.due(-1, h.found(35, 300, wild), "FOLD " + wild + " of two");
        }
        check.due(-1, h.found(48, 384, 0), "FOLD 0 of none");
        check.due(-1, h.found(36, 240, 1), "FOLD 1 of one");
        check.due(-1, h.found(35, 300, 2), "FOLD 2 of two");
        check.due(-1, h.found(35, 300, -2), "FOLD -2 of two");
    }

    private static void foundTerms() {
        check.says(33, "FOUND: AREA and FRONT: the fewest FOLDS (0 to 2, N 1 to 6) that make them of THE SHEET; of like ones the first by FOLDS"
            + " (KIND, N), one behind the other.");
        DartHangar h = new DartHangar();
        h.sheet(4, 3);
        dueFound(h, 12, 48, 0);
        dueFound(h, 48, 384, -1);
        dueFound(h, 9, 56, 1, 203);
        // Both have to be so: AREA 9 is nose 1 too (G 3 (2 + 3 + 5)), FRONT 48 is side 1 too.
        dueFound(h, 9, 30, 1, 1);
        dueFound(h, 8, 48, 1, 101);
        // nose 1 and side 1, in either order: nose first.
        dueFound(h, 6, 30, 2, 1, 101);
        // By three FOLDS alone: nose 1, nose 1, side 1: 2 by 2 CELLS, G 3 3 + 3 3.
        dueFound(h, 4, 18, -1);
        dueByHand(5, 4);
        // The first of all FOLDS as the second one: 6 (3 + 3 + 5 + 7 + 9 + 11).
        dueFound(new DartHangar(), 36, 228, 2, 1, 1);
        // N up to 6: nose 6 of 24 by 12 is found, nose 12 (12 ROWS of 2 LAYERS: 24 144) is not; nor is nose 7.
        DartHangar large = Check.folded(24, 12, "nose 6;");
        Check.way(large, "nose 7;");
        Check.way(large, "nose 12;");
        Check.way(large, "corner 6;");
        Check.way(large, "corner 6;corner 6;");
        dueFound(large, large.make(0, 2), large.make(0, 4), 1, 6);
        check.due(-1, large.found(large.make(1, 2), large.make(1, 4), -1), "nose 7");
        check.due(-1, large.found(144, 24 * 144, -1), "nose 12");
        dueFound(large, large.make(3, 2), large.make(3, 4), 1, 206);
    }

    /** All pairs of FOLDS of a small SHEET: what they make is found by the first of those with the fewest FOLDS. */
    private static void dueByHand(int rows, int columns) {
        String[] kinds = {"nose", "side", "corner"};
        for (int f = 0; f < 18; f++) {
            DartHangar h = new DartHangar();
            h.sheet(rows, columns);
            for (int g = 0; g < 18; g++) {
                h.image(0);
                int way = Check.way(h, kinds[f / 6] + " " + (f % 6 + 1) + ";" + kinds[g / 6] + " " + (g % 6 + 1) + ";");
                if (h.breaks(way) == -1) {
                    int area = h.make(way, 2);
                    int front = h.make(way, 4);
                    int many = h.found(area, front, -1);
                    check.due(true, many >= 0 && many <= 2, "how many FOLDS make " + area + ", " + front);
                    int first = many == 2 ? h.found(area, front, 0) : 0;
                    int second = h.found(area, front, 1);
                    int code = 100 * (f / 6) + f % 6 + 1;
                    int other = 100 * (g / 6) + g % 6 + 1;
                    check.due(true, first < code || first == code && second <= other, "found(" + area + ", " + front + ") is no later than " + code + ", " + other);
                }
                h.restore(0);
            }
        }
    }
}

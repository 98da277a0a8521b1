/** Promises 11 to 19: flights, draughts, crates, damp, the best slant, rests and why. */
public final class FlightsTest {
    private static final Check check = new Check();

    public static void main(String[] args) {
        fly();
        wrongFlights();
        ticksByHand();
        attackByHand();
        roof();
        endings();
        loopsAndEven();
        at();
        draught();
        crate();
        still();
        damp();
        slant();
        rest();
        why();
        check.end();
    }

    /** WAY 0 is the whole sheet (LEVER 0), WAY 1 nose 2 (S 36, W 48, LEVER 10), WAY 2 has no MAKE. */
    private static DartHangar hangar(String law) {
        DartHangar h = new DartHangar();
        Check.way(h, "");
        Check.way(h, "nose 2;");
        Check.way(h, "nose 5;");
        if (!law.isEmpty()) {
            Check.law(h, law);
        }
        return h;
    }

    private static void dueFlight(DartHangar h, int[] args, int... want) {
        for (int what = 0; what < want.length; what++) {
            check.due(want[what], h.fly(args[0], args[1], args[2], args[3], what),
                "fly(" + args[0] + ", " + args[1] + ", " + args[2] + ", " + args[3] + ", " + what + ")");
        }
    }

    private static void dueState(DartHangar h, int[] args, int ticks, int... want) {
        for (int what = 0; what < want.length; what++) {
            check.due(want[what], h.at(args[0], args[1], args[2], args[3], ticks, what),
                "at(" + args[0] + ", " + args[1] + ", " + args[2] + ", " + args[3] + ", " + ticks + ", " + what + ")");
        }
    }

    private static void fly() {
        check.promise(11);
        DartHangar h = hangar(Check.STONE);
        // Falls 10, 20, .. a TICK: 10 k (k + 1) by 2 is 2000 or more behind 20 TICKS (2100).
        dueFlight(h, new int[] {0, 0, 100, 0}, 2000, 20, 2000, 1, 0, 1);
        // Up 90, 80, .. 0: 450 high.
        dueFlight(h, new int[] {0, 0, 100, 16}, 0, 32, 2450, 1, 0, 1);
        // SPEED 999 at SLANT 8: 999 times 707 by 1000 is 706 both ways; 200 TICKS end it high above.
        dueFlight(h, new int[] {0, 9, 999, 8}, 706 * 143, 143, 2000 + 706 * 70 - 10 * 70 * 71 / 2, 1, 0, 1);
        // The bounds themselves.
        dueFlight(h, new int[] {0, -9, 10, -16}, 0, 19, 2000, 1, 0, -1);
    }

    private static void wrongFlights() {
        check.promise(11);
        DartHangar h = hangar(Check.STONE);
        int[][] wrong = {{-10, 100, 0, 0}, {10, 100, 0, 0}, {0, 9, 0, 0}, {0, 1000, 0, 0}, {0, 100, -17, 0}, {0, 100, 17, 0},
            {0, 100, 0, -1}, {0, 100, 0, 6}, {Integer.MIN_VALUE, 100, 0, 0}, {0, Integer.MAX_VALUE, 0, 0}, {0, 100, Integer.MIN_VALUE, 0}};
        for (int[] a : wrong) {
            check.refused(Check.ARGUMENT, "fly(0, " + a[0] + ", " + a[1] + ", " + a[2] + ", " + a[3] + ")",
                () -> h.fly(0, a[0], a[1], a[2], a[3]));
        }
        check.refused(Check.STATE, "fly without a MAKE, wrong EARS", () -> h.fly(2, 10, 100, 0, 0));
        check.refused(Check.NO_ELEMENT, "fly of no WAY, wrong EARS", () -> h.fly(3, 10, 100, 0, 0));
        check.refused(Check.NO_ELEMENT, "fly of WAY -1", () -> h.fly(-1, 0, 100, 0, 0));
    }

    private static void ticksByHand() {
        check.promise(12);
        DartHangar h = hangar("");
        int[] thrown = {1, 3, 500, 0};
        dueState(h, thrown, 0, 0, 2000, 500, 0, 0, 0);
        // Q 250, DRAG 2 250 36 by 480 = 37, SPIN 3 250 10 by 1000 = 7, less 2.
        dueState(h, thrown, 1, 463, 1990, 463, -10, 5, 5);
        // Q 214, DRAG 32, SPIN 5 + 6 = 11, less 3.
        dueState(h, thrown, 2, 894, 1970, 431, -20, 13, 8);
        // LEVER 0 and EARS below 0: SPIN -9 250 10 by 1000 = -22, less -6; NOSE goes round.
        // DRAG 2 250 48 by 480 = 50.
        dueState(h, new int[] {0, -9, 500, 0}, 1, 450, 1990, 450, -10, 1008, -16);
    }

    private static void attackByHand() {
        check.promise(12);
        // The nose stands still, so the PATH sinks below it.
        DartHangar h = hangar("turn 0;pull 50;drag 0 0 0 0 0 0 0 0 0;");
        int[] thrown = {1, 0, 100, 0};
        // TICK 1: ATTACK 0, no LIFT: VY -50. TICK 2: PATH of (100, -50): 100 COS + 50 SIN of 5 steps down
        // 88200 + 23550 = 111750, of 4 down 92400 + 19150 = 111550, of 6 down 83100 + 27800 = 110900: 59.
        // ATTACK 0 - 59 + 64 = 5; Q 12; LIFT 45 12 36 by 480 = 40; COS 882, SIN -471:
        // VX 100 + 18840 by 1000 = 118, VY -50 + 35280 by 1000 - 50 = -65.
        dueState(h, thrown, 1, 100, 1950, 100, -50, 0, 0);
        dueState(h, thrown, 2, 218, 1885, 118, -65, 0, 0);
        // An ATTACK below 0 lifts downwards: the nose turned down by EARS -9 in one TICK, then looked at.
        DartHangar down = hangar("turn 99;slow 0;thin 1;pull 1;drag 0 0 0 0 0 0 0 0 0;");
        // Q 250: SPIN -9 250 99 by 1000 = -222, kept at -200: NOSE 824. TICK 2: NOSE by 16 is 51; PATH 0 of (500, -1):
        // ATTACK 51 - 64 = -13, so -8: LIFT -(10 250 48 by 48) = -2500. VX 500 - (-2500 0) = 500, VY -1 - 2500 - 1: -2000.
        dueState(down, new int[] {0, -9, 500, 0}, 1, 500, 1999, 500, -1, 824, -200);
        dueState(down, new int[] {0, -9, 500, 0}, 2, 1000, -1, 500, -2000, 624, -200);
        // LEVER 10 turns the nose down under LIFT: lift of ATTACK 0 is above 0.
        DartHangar lever = hangar("lift 8 0 0 0 0 0 0 0 0;drag 0 0 0 0 0 0 0 0 0;slow 0;");
        // LIFT 8 250 36 by 480 = 150; SPIN -(10 150) 10 by 1000 = -15; VY 150 - 10.
        dueState(lever, new int[] {1, 0, 500, 0}, 1, 500, 2140, 500, 140, 1009, -15);
    }

    private static void roof() {
        check.promise(11);
        DartHangar h = hangar(Check.STONE + "roof 21;");
        int[] up = {0, 0, 100, 16};
        dueState(h, up, 1, 0, 2090, 0, 90);
        dueState(h, up, 2, 0, 2100, 0, -40);
        check.due(2100, h.fly(0, 0, 100, 16, 2), "HIGH under a roof");
        DartHangar even = hangar(Check.STONE + "roof 21;pull 1;");
        dueState(even, new int[] {0, 0, 101, 16}, 1, 0, 2100, 0, 100);
        dueState(even, new int[] {0, 0, 102, 16}, 1, 0, 2100, 0, -50);
        DartHangar low = hangar(Check.STONE + "roof 10;");
        dueState(low, new int[] {0, 0, 100, 0}, 1, 100, 1000, 100, 5);
        check.due(2000, low.fly(0, 0, 100, 0, 2), "HIGH is 2000 at least");
    }

    private static void endings() {
        check.promise(11);
        DartHangar h = hangar(Check.STONE);
        // Y is 100 behind TICK 19, -100 behind TICK 20.
        check.due(1, h.fly(0, 0, 100, 0, 3), "LANDED");
        h.crate(2000, 1);
        check.due(2, h.fly(0, 0, 100, 0, 3), "STOPPED in the TICK in which it would land");
        check.due(2000, h.fly(0, 0, 100, 0, 0), "FAR of that");
        h.still();
        DartHangar exact = hangar(Check.STONE + "pull 20;");
        // 20 k (k + 1) by 2: 1820 behind 13, 2100 behind 14. SPEED 10 up: VY -10, -30, ..: 10 k k: 2000 is between 14 and 15.
        check.due(14, exact.fly(0, 0, 100, 0, 1), "LONG with pull 20");
        exact.draught(14, 14, 20);
        // TICK 14 falls 260, not 280: 2080. Without pull in 12 to 14 it would fall less.
        check.due(1, exact.fly(0, 0, 100, 0, 3), "LANDED with a draught");
        DartHangar zero = hangar(Check.STONE + "pull 50;");
        // 50 k (k + 1) by 2: 2250 behind 9, 1800 behind 8. A draught of 20 in TICK 1 gives 20 less a TICK: 2070 behind 9.
        zero.draught(1, 1, 20);
        zero.draught(2, 2, 20);
        // Behind 9 TICKS: 2250 - 9 20 - 8 20 = 1910; one more TICK ends it.
        check.due(10, zero.fly(0, 0, 100, 0, 1), "LONG with two draughts");
        zero.draught(9, 9, -20);
        zero.draught(8, 8, -20);
        // 1910 + 20 + 40 = 1970: Y 30 behind 9.
        check.due(30, zero.at(0, 0, 100, 0, 9, 1), "Y behind 9 TICKS");
        check.due(10, zero.fly(0, 0, 100, 0, 1), "LONG then");
        DartHangar ground = hangar(Check.STONE + "pull 40;");
        // 40 k (k + 1) by 2: 1800 behind 9, 2200 behind 10; a draught of -20 in TICK 4: 6 20 more behind 9; and so on to 2000.
        ground.draught(1, 1, -20);
        ground.draught(9, 9, -20);
        check.due(0, ground.at(0, 0, 100, 0, 9, 1), "Y is 0");
        check.due(9, ground.fly(0, 0, 100, 0, 1), "it LANDED at 0");
    }

    private static void loopsAndEven() {
        check.promise(11);
        // LEVER 0, no LIFT, no DRAG: SPIN grows by 9 Q 99 by 1000 and is kept at 200.
        DartHangar h = hangar("lift 0 0 0 0 0 0 0 0 0;drag 0 0 0 0 0 0 0 0 0;turn 99;slow 0;");
        // SPEED 999: Q 998: SPIN 889, kept at 200 in each of 20 TICKS: 4000 by 1024 = 3.
        check.due(20, h.fly(0, 9, 999, 0, 1), "LONG");
        check.due(3, h.fly(0, 9, 999, 0, 4), "LOOPS");
        check.due(3, h.fly(0, -9, 999, 0, 4), "LOOPS the other way");
        check.due(-1, h.fly(0, 9, 999, 0, 5), "EVEN");
        check.due(1, h.fly(0, 0, 999, 0, 5), "EVEN with EARS 0");
        // slow 9, turn 1: SPIN becomes (SPIN + 9 Q by 1000) less nine tenths. SPEED 500: 9 250 by 1000 = 2: SPIN 2 - 1 = 1,
        // then 3 - 2 = 1 ..: never above 2.
        DartHangar slow = hangar("lift 0 0 0 0 0 0 0 0 0;drag 0 0 0 0 0 0 0 0 0;turn 1;slow 9;");
        check.due(1, slow.fly(0, 9, 500, 0, 5), "EVEN with a SPIN of 1");
        check.due(1, slow.at(0, 9, 500, 0, 5, 5), "that SPIN");
        check.due(20, slow.fly(0, 9, 500, 0, 1), "20 TICKS just are enough");
        slow.crate(500 * 19, 9999);
        check.due(-1, slow.fly(0, 9, 500, 0, 5), "19 TICKS are not");
        slow.still();
        loopsOf("turn 71;slow 1;", 100, 26, -1024, 1);
        loopsOf("turn 78;slow 1;", 350, 6, -1023, 0);
        // pull 1 makes it fly 63 TICKS; a law whose drag eats SPEED lets SPIN fall: 3 in TICK 1, 2 at most later.
        DartHangar calm = hangar("lift 0 0 0 0 0 0 0 0 0;drag 99 99 99 99 99 99 99 99 99;turn 10;slow 0;pull 1;");
        // SPEED 200: Q 40, SPIN 9 40 10 by 1000 = 3, DRAG 99 40 48 by 480 = 396: VX -196: Q 38: SPIN 6 ..
        check.due(3, calm.at(0, 9, 200, 0, 1, 5), "SPIN behind one TICK");
        check.due(6, calm.at(0, 9, 200, 0, 2, 5), "SPIN behind two TICKS");
        check.due(-196, calm.at(0, 9, 200, 0, 1, 2), "VX behind one TICK");
    }

    /** Level FLIGHTS with EARS -9 that a CRATE ends where all SPIN together is just a round, or just not. */
    private static void loopsOf(String law, int speed, int ticks, int turned, int loops) {
        DartHangar h = hangar("lift 0 0 0 0 0 0 0 0 0;drag 0 0 0 0 0 0 0 0 0;" + law);
        h.draught(1, 200, 10);
        h.crate(speed * ticks, 9999);
        int sum = 0;
        for (int t = 1; t <= ticks; t++) {
            sum += h.at(0, -9, speed, 0, t, 5);
        }
        check.due(turned, sum, "all SPIN of " + ticks + " TICKS");
        check.due(ticks, h.fly(0, -9, speed, 0, 1), "LONG to the CRATE");
        check.due(loops, h.fly(0, -9, speed, 0, 4), "LOOPS of " + turned);
    }

    private static void at() {
        check.promise(12);
        DartHangar h = hangar(Check.STONE);
        dueState(h, new int[] {0, 0, 100, -16}, 0, 0, 2000, 0, -100, 768, 0);
        dueState(h, new int[] {0, 0, 999, -1}, 0, 0, 2000, 994, -97, 1008, 0);
        dueState(h, new int[] {0, 0, 100, 0}, 20, 2000, -100, 100, -200, 0, 0);
        dueState(h, new int[] {0, 0, 100, 0}, 21, 2000, -100, 100, -200, 0, 0);
        dueState(h, new int[] {0, 0, 100, 0}, 200, 2000, -100, 100, -200, 0, 0);
        h.crate(450, 9999);
        dueState(h, new int[] {0, 0, 100, 0}, 200, 450, 1850, 100, -50, 0, 0);
        check.refused(Check.ARGUMENT, "at(.. 201, 0)", () -> h.at(0, 0, 100, 0, 201, 0));
        check.refused(Check.ARGUMENT, "at(.. -1, 0)", () -> h.at(0, 0, 100, 0, -1, 0));
        check.refused(Check.ARGUMENT, "at(.. 0, 6)", () -> h.at(0, 0, 100, 0, 0, 6));
        check.refused(Check.ARGUMENT, "at(.. 0, -1)", () -> h.at(0, 0, 100, 0, 0, -1));
        check.refused(Check.ARGUMENT, "at with EARS 10", () -> h.at(0, 10, 100, 0, 0, 0));
        check.refused(Check.ARGUMENT, "at with SPEED 1000", () -> h.at(0, 0, 1000, 0, 0, 0));
        check.refused(Check.ARGUMENT, "at with SLANT 17", () -> h.at(0, 0, 100, 17, 0, 0));
        check.refused(Check.STATE, "at without a MAKE", () -> h.at(2, 10, 100, 0, 201, 0));
        check.refused(Check.NO_ELEMENT, "at of no WAY", () -> h.at(3, 10, 100, 0, 201, 0));
    }

    private static void draught() {
        check.promise(13);
        DartHangar h = hangar(Check.STONE);
        check.due(0, h.draught(1, 200, 20), "the first DRAUGHT");
        check.due(1, h.draught(2, 3, -20), "the second DRAUGHT");
        check.due(2, h.draught(3, 3, -5), "the third DRAUGHT");
        // VY: 0 - 10 + 20, then - 10, then - 15, then 10 more each.
        check.due(10, h.at(0, 0, 100, 0, 1, 3), "VY behind TICK 1");
        check.due(0, h.at(0, 0, 100, 0, 2, 3), "VY behind TICK 2");
        check.due(-15, h.at(0, 0, 100, 0, 3, 3), "VY behind TICK 3");
        check.due(-5, h.at(0, 0, 100, 0, 4, 3), "VY behind TICK 4");
        int[][] wrong = {{0, 5, 1}, {1, 201, 1}, {5, 4, 1}, {201, 201, 1}, {1, 2, 21}, {1, 2, -21}, {1, 0, 1}, {Integer.MIN_VALUE, 1, 1}};
        for (int[] a : wrong) {
            check.refused(Check.ARGUMENT, "draught(" + a[0] + ", " + a[1] + ", " + a[2] + ")", () -> h.draught(a[0], a[1], a[2]));
        }
        check.due(3, h.count(10), "DRAUGHTS behind refused ones");
        check.due(3, h.draught(200, 200, 0), "the fourth DRAUGHT");
        check.due(-1, h.draught(1, 1, 1), "a fifth DRAUGHT");
        check.refused(Check.ARGUMENT, "a wrong fifth DRAUGHT", () -> h.draught(2, 1, 1));
        check.due(4, h.count(10), "DRAUGHTS");
    }

    private static void crate() {
        check.promise(14);
        DartHangar h = hangar(Check.STONE);
        check.due(0, h.crate(99999, 9999), "the first CRATE");
        // Behind TICK 10: X 1000, Y 1450.
        check.due(1, h.crate(1000, 1449), "the second CRATE");
        check.due(2000, h.fly(0, 0, 100, 0, 0), "it flies above 1449");
        check.due(2, h.crate(950, 1450), "the third CRATE");
        dueFlight(h, new int[] {0, 0, 100, 0}, 950, 10, 2000, 2);
        check.due(-1, h.crate(1, 1), "a fourth CRATE");
        int[][] wrong = {{0, 1}, {1, 0}, {100000, 1}, {1, 10000}, {-5, 5}, {5, Integer.MIN_VALUE}};
        for (int[] a : wrong) {
            check.refused(Check.ARGUMENT, "crate(" + a[0] + ", " + a[1] + ")", () -> h.crate(a[0], a[1]));
        }
        check.due(3, h.count(11), "CRATES");
        h.still();
        // Of several in one TICK that at the least x, however they came.
        h.crate(980, 9999);
        h.crate(920, 9999);
        h.crate(940, 9999);
        check.due(920, h.fly(0, 0, 100, 0, 0), "the least x");
        h.still();
        // X goes from 900, which is not below 900.
        h.crate(900, 9999);
        check.due(9, h.fly(0, 0, 100, 0, 1), "LONG to a CRATE at the very place");
        h.still();
        // Backwards past it: nothing is met.
        h.crate(1, 9999);
        check.due(0, h.fly(0, 0, 100, 16, 0), "straight up it never gets to 1");
    }

    private static void still() {
        check.promise(15);
        DartHangar h = hangar(Check.STONE);
        check.due(0, h.still(), "still() of a new object");
        h.draught(1, 200, 10);
        h.draught(1, 200, 10);
        h.crate(5, 5);
        check.due(3, h.still(), "still()");
        check.due(0, h.count(10), "DRAUGHTS");
        check.due(0, h.count(11), "CRATES");
        check.due(20, h.fly(0, 0, 100, 0, 1), "LONG in still air");
        check.due(0, h.draught(1, 200, 10), "numbers begin anew");
        check.due(1, h.still(), "still()");
    }

    private static void damp() {
        check.promise(16);
        DartHangar h = hangar("");
        check.due(0, h.damp(50), "DAMP at first");
        // DRAG 2 250 36 by ((48 + 24) 10) = 25.
        check.due(475, h.at(1, 0, 500, 0, 1, 2), "VX behind one damp TICK");
        check.due(50, h.damp(3), "DAMP then");
        // 48 3 by 100 is 1: DRAG 18000 by 490 = 36.
        check.due(464, h.at(1, 0, 500, 0, 1, 2), "VX with DAMP 3");
        check.refused(Check.ARGUMENT, "damp(51)", () -> h.damp(51));
        check.refused(Check.ARGUMENT, "damp(-1)", () -> h.damp(-1));
        check.due(3, h.count(13), "DAMP");
        check.due(48, h.make(1, 3), "WEIGHT stays");
        check.due(10, h.make(1, 6), "LEVER stays");
        check.due(3, h.damp(0), "DAMP");
        // T counts it too: e W thin is 2 (48 + 24) 10 = 1440 = LEVER S lift: 10 36 4.
        Check.law(h, "lift 0 0 4 9 9 9 9 9 9;");
        check.due(-1, h.rest(1, 2, 1), "RESTS without DAMP");
        check.due(101, h.rest(1, 2, 0), "a REST between 1 and 2");
        h.damp(50);
        check.due(102, h.rest(1, 2, 0), "a REST at 2");
    }

    private static void slant() {
        check.promise(17);
        DartHangar h = hangar(Check.STONE);
        check.due(14, h.slant(0, 0, 100, true), "BEST SLANT for long: 14 is as good as 15 and 16");
        int best = -16;
        for (int s = -16; s <= 16; s++) {
            best = h.fly(0, 0, 100, s, 0) > h.fly(0, 0, 100, best, 0) ? s : best;
        }
        check.due(best, h.slant(0, 0, 100, false), "BEST SLANT for far");
        h.crate(1, 9999);
        // Every SLANT but straight up and down ends at 1: the least of them wins, -15.
        check.due(-15, h.slant(0, 0, 100, false), "BEST SLANT of like ones");
        DartHangar lift = hangar("");
        for (int e = -9; e <= 9; e += 6) {
            int far = -16;
            int lasts = -16;
            for (int s = -16; s <= 16; s++) {
                far = lift.fly(1, e, 150, s, 0) > lift.fly(1, e, 150, far, 0) ? s : far;
                lasts = lift.fly(1, e, 150, s, 1) > lift.fly(1, e, 150, lasts, 1) ? s : lasts;
            }
            check.due(far, lift.slant(1, e, 150, false), "BEST SLANT for far, EARS " + e);
            check.due(lasts, lift.slant(1, e, 150, true), "BEST SLANT for long, EARS " + e);
        }
        check.refused(Check.ARGUMENT, "slant with EARS -10", () -> h.slant(0, -10, 100, true));
        check.refused(Check.ARGUMENT, "slant with SPEED 9", () -> h.slant(0, 0, 9, true));
        check.refused(Check.STATE, "slant without a MAKE", () -> h.slant(2, 10, 100, true));
        check.refused(Check.NO_ELEMENT, "slant of no WAY", () -> h.slant(3, 10, 100, true));
    }

    private static void rest() {
        check.promise(18);
        // LEVER 10, S 36, W 48, thin 10: T(k) is 480 e - 360 lift of k.
        DartHangar h = hangar("");
        check.due(1, h.rest(1, 0, -1), "RESTS with EARS 0");
        check.due(100, h.rest(1, 0, 0), "at 0: its lift is 0");
        check.due(-1, h.rest(1, 0, 1), "a second one");
        check.due(-1, h.rest(1, 0, -2), "rest(1, 0, -2)");
        // EARS 9: 4320 - 360 lift: 0 at lift 12, above 0 at 1 (10), below at 2 (20); lift 10 at 8 is above 0 again.
        check.due(1, h.rest(1, 9, -1), "RESTS with EARS 9");
        check.due(101, h.rest(1, 9, 0), "between 1 and 2");
        // EARS -9: lift -12 at ATTACK -1 to -2: T(-2) is 20 360 - 4320 above 0, T(-1) below.
        check.due(1, h.rest(1, -9, -1), "RESTS with EARS -9");
        check.due(98, h.rest(1, -9, 0), "between -2 and -1");
        DartHangar two = hangar("lift 0 12 0 12 20 0 20 4 12;");
        // EARS 9 of WAY 1: T 0 at 1, 3 and 8; above 0 to below 0: 3 is 0 itself; 5 (0) to 6 (20).
        check.due(4, two.rest(1, 9, -1), "RESTS of a bent lift");
        int[] want = {101, 103, 105, 108};
        for (int i = 0; i < 4; i++) {
            check.due(want[i], two.rest(1, 9, i), "REST " + i);
        }
        check.due(-1, two.rest(1, 9, 4), "a fifth one");
        check.due(17, two.rest(0, 0, -1), "LEVER 0 and EARS 0: all");
        check.due(92, two.rest(0, 0, 0), "the first of all");
        check.due(108, two.rest(0, 0, 16), "the last of all");
        // 4 by 3, nose 1: S 9, LEVER 5; W 12 and 1 by DAMP 9: T(k) is 13 e - 45 lift: 91 - 90 = 1 at lift 2, below 0 at lift 3.
        DartHangar near = new DartHangar();
        near.sheet(4, 3);
        Check.way(near, "nose 1;");
        Check.law(near, "thin 1;lift 0 0 2 3 3 3 3 3 3;");
        near.damp(9);
        check.due(1, near.rest(0, 7, -1), "RESTS from a T of 1");
        check.due(102, near.rest(0, 7, 0), "that REST");
        check.refused(Check.ARGUMENT, "rest with EARS 10", () -> h.rest(1, 10, 0));
        check.refused(Check.STATE, "rest without a MAKE", () -> h.rest(2, 10, 0));
        check.refused(Check.NO_ELEMENT, "rest of no WAY", () -> h.rest(3, 10, 0));
    }

    private static void why() {
        check.promise(19);
        DartHangar h = hangar("");
        check.due(0, h.why(1, 0), "a REST");
        check.due(2, h.why(0, 1), "LEVER 0 and EARS 1 stall");
        check.due(1, h.why(0, -1), "LEVER 0 and EARS -1 nose down");
        // T(k) is 480 e - 360 lift of k: EARS 9 and lift 12 make 0 at ATTACK 8 alone, EARS -9 at -8 alone.
        DartHangar edge = hangar("lift 0 0 0 0 0 0 0 0 12;");
        check.due(0, edge.why(1, 9), "a REST at 8");
        check.due(108, edge.rest(1, 9, 0), "a REST at 8");
        check.due(0, edge.why(1, -9), "a REST at -8");
        check.due(92, edge.rest(1, -9, 0), "a REST at -8");
        check.due(2, hangar("lift 0 0 0 0 0 0 0 0 11;").why(1, 9), "just above 0 at 8 too");
        check.due(1, hangar("lift 0 0 0 0 0 0 0 0 11;").why(1, -9), "just below 0 at -8 too");
        DartHangar steep = hangar("lift 2 2 2 2 2 2 2 2 2;thin 1;");
        // thin 1: 48 e - 360 lift: T is below 0 from 0 on, above 0 ahead of it: a REST at -1.
        check.due(0, steep.why(1, 1), "a REST at -1");
        check.due(99, steep.rest(1, 1, 0), "a REST at -1");
        // A LEVER below 0 turns T round: below 0 first, then above: no REST, and neither all above nor all below.
        DartHangar back = hangar("lift 2 2 2 2 2 2 2 2 2;thin 1;");
        back.sheet(4, 4);
        int way = Check.way(back, "corner 4;side 2;");
        // LAYERS 1 0, 2 1, 2 3, 3 4: S 7, W 16, G 84, H 31: 10 (31 16 - 84 7) by 112.
        check.due(-8, back.make(way, 6), "the LEVER of corner 4, side 2");
        check.due(3, back.why(way, 0), "WHY with a LEVER below 0");
        check.due(0, back.rest(way, 0, -1), "its RESTS");
        check.refused(Check.ARGUMENT, "why with EARS -10", () -> h.why(1, -10));
        check.refused(Check.STATE, "why without a MAKE", () -> h.why(2, 10));
        check.refused(Check.NO_ELEMENT, "why of no WAY", () -> h.why(3, 10));
    }
}

/** Promises 11 and 13 to 17: how flights end and what is told of them, draughts, crates, damp, the best slant. */
public final class FlightsTest {
    private static final Check check = new Check();

    public static void main(String[] args) {
        whatOfAFlight();
        wrongThrow();
        lands();
        stops();
        stopsAtTheLeast();
        endsBehind200Ticks();
        far();
        lasted();
        high();
        loops();
        even();

        aDraughtMore();
        fourDraughts();
        wrongDraught();
        draughtTicks();
        draughtsTogether();

        aCrateMore();
        threeCrates();
        wrongCrate();

        still();

        damp();
        dampBounds();
        dampWeight();

        bestSlant();
        bestSlantTerms();
        check.end();
    }

    private static void dueFlight(DartHangar h, int[] thrown, int... want) {
        for (int what = 0; what < want.length; what++) {
            check.due(want[what], h.fly(thrown[0], thrown[1], thrown[2], thrown[3], what),
                "fly(" + thrown[0] + ", " + thrown[1] + ", " + thrown[2] + ", " + thrown[3] + ", " + what + ")");
        }
    }

    /** Nothing lifts, drags or pulls: it flies straight on, and only EARS turn its nose. */
    private static DartHangar straight(String law) {
        DartHangar h = Check.hangar("lift 0 0 0 0 0 0 0 0 0;drag 0 0 0 0 0 0 0 0 0;" + law);
        h.draught(1, 200, 10);
        return h;
    }

    // ---- promise 11

    private static void whatOfAFlight() {
        check.says(11, "A FLIGHT, what 0: FAR, 1: LONG, 2: HIGH, 3: 1 if it LANDED, 2 if it was STOPPED, else 0, 4: LOOPS, 5: EVEN (NONE).");
        DartHangar h = Check.hangar(Check.STONE);
        // Falls 10, 20, .. a TICK: 10 k (k + 1) by 2 is 2000 or more behind 20 TICKS (2100).
        dueFlight(h, new int[] {0, 0, 100, 0}, 2000, 20, 2000, 1, 0, 1);
        // Up 90, 80, .. 0: 450 high.
        dueFlight(h, new int[] {0, 0, 100, 16}, 0, 32, 2450, 1, 0, 1);
        // SPEED 999 at SLANT 8: 999 times 707 by 1000 is 706 both ways.
        dueFlight(h, new int[] {0, 9, 999, 8}, 706 * 143, 143, 2000 + 706 * 70 - 10 * 70 * 71 / 2, 1, 0, 1);
        // 19 TICKS are too few to be EVEN.
        dueFlight(h, new int[] {0, -9, 10, -16}, 0, 19, 2000, 1, 0, -1);
        h.crate(1000, 9999);
        dueFlight(h, new int[] {0, 0, 100, 0}, 1000, 10, 2000, 2, 0, -1);
        DartHangar on = straight("turn 99;slow 0;");
        // SPIN 200 in each of 200 TICKS: 40000 by 1024.
        dueFlight(on, new int[] {0, 9, 999, 0}, 199800, 200, 2000, 0, 39, -1);
    }

    private static void wrongThrow() {
        check.says(11, "IllegalArgumentException: EARS, SPEED, SLANT (as everywhere), another what.");
        DartHangar h = Check.hangar(Check.STONE);
        int[][] wrong = {{-10, 100, 0, 0}, {10, 100, 0, 0}, {0, 9, 0, 0}, {0, 1000, 0, 0}, {0, 100, -17, 0}, {0, 100, 17, 0}, {0, 100, 0, -1}, {0, 100, 0, 6}};
        for (int[] a : wrong) {
            check.refused(Check.ARGUMENT, "fly(0, " + a[0] + ", " + a[1] + ", " + a[2] + ", " + a[3] + ")", () -> h.fly(0, a[0], a[1], a[2], a[3]));
        }
        for (int wild : Check.WILD) {
            check.refused(Check.ARGUMENT, "EARS " + wild, () -> h.fly(0, wild, 100, 0, 0));
            check.refused(Check.ARGUMENT, "SPEED " + wild, () -> h.fly(0, 0, wild, 0, 0));
            check.refused(Check.ARGUMENT, "SLANT " + wild, () -> h.fly(0, 0, 100, wild, 0));
            check.refused(Check.ARGUMENT, "what " + wild, () -> h.fly(0, 0, 100, 0, wild));
        }
        check.due(19, h.fly(0, -9, 10, -16, 1), "LONG of the least numbers");
        check.due(200, h.fly(0, 9, 999, 16, 1), "LONG of the greatest numbers");
    }

    private static void lands() {
        check.says(11, "It ends behind the TICK in which Y is 0 or below (LANDED)");
        // 40 k (k + 1) by 2 is 1800 behind 9 TICKS; 20 more in TICK 1 are 180 more by then, in TICK 9 20 more: 2000.
        DartHangar ground = Check.hangar(Check.STONE + "pull 40;");
        ground.draught(1, 1, -20);
        ground.draught(9, 9, -20);
        check.due(0, ground.at(0, 0, 100, 0, 9, 1), "Y is 0");
        dueFlight(ground, new int[] {0, 0, 100, 0}, 900, 9, 2000, 1);
        // 19 more instead: Y is 1, and it flies on.
        DartHangar above = Check.hangar(Check.STONE + "pull 40;");
        above.draught(1, 1, -20);
        above.draught(9, 9, -19);
        check.due(1, above.at(0, 0, 100, 0, 9, 1), "Y is 1");
        dueFlight(above, new int[] {0, 0, 100, 0}, 1000, 10, 2000, 1);
        // 20 and 1 more: Y is -1.
        ground.draught(9, 9, -1);
        check.due(-1, ground.at(0, 0, 100, 0, 9, 1), "Y is -1");
        dueFlight(ground, new int[] {0, 0, 100, 0}, 900, 9, 2000, 1);
    }

    private static void stops() {
        check.says(11, "or in which X goes from below a CRATE's x to it or more, Y then being its height or less");
        // Behind TICK 9: X 900, Y 1550; behind TICK 10: X 1000, Y 1450.
        int[][] crates = {
            {1000, 1450, 2, 10}, {1000, 1449, 1, 20}, {1000, 1451, 2, 10}, {901, 1450, 2, 10}, {901, 1449, 1, 20},
            {900, 1550, 2, 9}, {900, 1549, 1, 20}, {2000, 1, 2, 20}, {2001, 9999, 1, 20}, {1, 9999, 2, 1}, {1, 1989, 1, 20}, {99999, 9999, 1, 20}};
        for (int[] c : crates) {
            DartHangar h = Check.hangar(Check.STONE);
            h.crate(c[0], c[1]);
            check.due(c[2], h.fly(0, 0, 100, 0, 3), "how it ends with a CRATE at " + c[0] + ", " + c[1] + " high");
            check.due(c[3], h.fly(0, 0, 100, 0, 1), "LONG with a CRATE at " + c[0] + ", " + c[1] + " high");
        }
        stopsForwardsOnly();
        DartHangar up = Check.hangar(Check.STONE);
        up.crate(1, 9999);
        check.due(1, up.fly(0, 0, 100, 16, 3), "straight up it never gets to 1");
    }

    /** Over a CRATE of 1999 at 2000, and back through it from behind, lower: nothing is met. */
    private static void stopsForwardsOnly() {
        DartHangar h = Check.hangar("turn 0;thin 1;lift 0 0 0 0 0 0 0 0 0;drag 0 20 0 0 0 0 0 0 0;");
        h.draught(1, 200, 10);
        h.draught(3, 3, -6);
        h.draught(4, 4, -20);
        h.crate(150, 1999);
        // (98, 0) until VY is -6 in TICK 3: ATTACK 1, DRAG 180 in TICK 4: VX 98 - 179, VY -6 + 17 - 20; then straight on.
        int[][] places = {{0, 2000}, {98, 2000}, {196, 2000}, {294, 1994}, {213, 1985}, {132, 1976}, {51, 1967}};
        for (int t = 0; t < places.length; t++) {
            check.due(places[t][0], h.at(0, 0, 98, 0, t, 0), "X behind TICK " + t);
            check.due(places[t][1], h.at(0, 0, 98, 0, t, 1), "Y behind TICK " + t);
        }
        check.due(0, h.fly(0, 0, 98, 0, 3), "it is not STOPPED backwards");
        check.due(132 - 195 * 81, h.fly(0, 0, 98, 0, 0), "FAR backwards");
    }

    private static void stopsAtTheLeast() {
        check.says(11, "(STOPPED: of several that at the least x; X is x then; it isn't LANDED)");
        int[][] orders = {{980, 920, 940}, {920, 940, 980}, {940, 980, 920}};
        for (int[] x : orders) {
            DartHangar h = Check.hangar(Check.STONE);
            for (int one : x) {
                h.crate(one, 9999);
            }
            dueFlight(h, new int[] {0, 0, 100, 0}, 920, 10, 2000, 2);
            check.due(920, h.at(0, 0, 100, 0, 200, 0), "X is x then");
        }
        // Of several only those that are high enough.
        DartHangar low = Check.hangar(Check.STONE);
        low.crate(920, 1449);
        low.crate(980, 1450);
        low.crate(940, 1000);
        dueFlight(low, new int[] {0, 0, 100, 0}, 980, 10, 2000, 2);
        // In TICK 20 Y is -100: it would land, and is STOPPED.
        DartHangar ground = Check.hangar(Check.STONE);
        ground.crate(1950, 1);
        dueFlight(ground, new int[] {0, 0, 100, 0}, 1950, 20, 2000, 2);
        check.due(-100, ground.at(0, 0, 100, 0, 20, 1), "Y then");
    }

    private static void endsBehind200Ticks() {
        check.says(11, "or behind 200 TICKS.");
        DartHangar h = straight("turn 0;");
        dueFlight(h, new int[] {0, 0, 100, 0}, 20000, 200, 2000, 0);
        // 40 k (k + 1) by 2: 1800 behind 9 TICKS, 2200 behind 10. From TICK 192 on it does not land, from 191 on it lands in TICK 200.
        h.draught(192, 200, -20);
        h.draught(192, 200, -20);
        dueFlight(h, new int[] {0, 0, 100, 0}, 20000, 200, 2000, 0);
        check.due(200, h.at(0, 0, 100, 0, 200, 1), "Y behind 200 TICKS");
        DartHangar lands = straight("turn 0;");
        lands.draught(191, 200, -20);
        lands.draught(191, 200, -20);
        dueFlight(lands, new int[] {0, 0, 100, 0}, 20000, 200, 2000, 1);
        // A CRATE in TICK 200, and one that TICK 201 would meet.
        DartHangar stopped = straight("turn 0;");
        stopped.crate(20000, 2000);
        dueFlight(stopped, new int[] {0, 0, 100, 0}, 20000, 200, 2000, 2);
        DartHangar behind = straight("turn 0;");
        behind.crate(20001, 2000);
        dueFlight(behind, new int[] {0, 0, 100, 0}, 20000, 200, 2000, 0);
    }

    private static void far() {
        check.says(11, "FAR: X then.");
        DartHangar h = Check.hangar(Check.STONE);
        for (int s = -16; s <= 16; s += 4) {
            check.due(h.at(0, 0, 300, s, 200, 0), h.fly(0, 0, 300, s, 0), "FAR at SLANT " + s);
        }
        // Thrown back: FAR is below 0. SPEED 200, Q 40, DRAG 22 40: VX -680 in each of 20 TICKS (from then on ATTACK -8 has none).
        DartHangar back = Check.hangar("turn 0;thin 1;lift 0 0 0 0 0 0 0 0 0;drag 22 0 0 0 0 0 0 0 0;");
        check.due(-680 * 20, back.fly(0, 0, 200, 0, 0), "a FAR below 0");
    }

    private static void lasted() {
        check.says(11, "LONG: how many TICKS there were.");
        DartHangar h = Check.hangar(Check.STONE);
        check.due(20, h.fly(0, 0, 100, 0, 1), "LONG");
        h.crate(1, 9999);
        check.due(1, h.fly(0, 0, 100, 0, 1), "LONG of one TICK");
        check.due(32, h.fly(0, 0, 100, 16, 1), "LONG straight up");
    }

    private static void high() {
        check.says(11, "HIGH: the greatest Y (2000 at least).");
        DartHangar h = Check.hangar(Check.STONE);
        check.due(2450, h.fly(0, 0, 100, 16, 2), "HIGH straight up");
        check.due(2000, h.fly(0, 0, 100, -16, 2), "HIGH straight down");
        // SPEED 11: 1 up in TICK 1.
        check.due(2001, h.fly(0, 0, 11, 16, 2), "HIGH by 1");
        check.due(2000, h.fly(0, 0, 10, 16, 2), "HIGH by 0");
        DartHangar roof = Check.hangar(Check.STONE + "roof 21;");
        check.due(2100, roof.fly(0, 0, 200, 16, 2), "HIGH under a roof");
        DartHangar low = Check.hangar(Check.STONE + "roof 10;");
        check.due(2000, low.fly(0, 0, 100, 0, 2), "HIGH under a roof of 1000");
        // The last TICK counts too: up to a CRATE. X 70, Y 2060.
        h.crate(70, 9999);
        check.due(2060, h.fly(0, 0, 100, 8, 2), "HIGH in the only TICK");
    }

    private static void loops() {
        check.says(11, "LOOPS: all SPIN added up by signs, that sum without sign by 1024, cut.");
        // SPIN 200 in each TICK: 5 TICKS are 1000, 6 are 1200, 11 are 2200.
        int[][] ends = {{5, 0}, {6, 1}, {10, 1}, {11, 2}, {15, 2}, {16, 3}};
        for (int[] end : ends) {
            DartHangar h = straight("turn 99;slow 0;");
            h.crate(500 * end[0], 9999);
            check.due(end[1], h.fly(0, 9, 500, 0, 4), "LOOPS of " + end[0] + " TICKS");
            check.due(end[1], h.fly(0, -9, 500, 0, 4), "LOOPS of " + end[0] + " TICKS the other way");
        }
        dueLoops("turn 71;slow 1;", 100, 26, -1024, 1);
        dueLoops("turn 78;slow 1;", 350, 6, -1023, 0);
        // By signs: the nose swings to and fro, so the sum is far less than the SPIN of all TICKS without signs.
        DartHangar swings = Check.hangar("pull 1;turn 99;slow 0;");
        int sum = 0;
        int all = 0;
        for (int t = 1; t <= swings.fly(1, 6, 400, 0, 1); t++) {
            int spin = swings.at(1, 6, 400, 0, t, 5);
            sum += spin;
            all += Math.abs(spin);
        }
        check.due(true, all / 1024 > Math.abs(sum) / 1024, "signs make a difference (" + sum + ", " + all + ")");
        check.due(Math.abs(sum) / 1024, swings.fly(1, 6, 400, 0, 4), "LOOPS of a nose that swings");
    }

    /** A level FLIGHT with EARS -9 that a CRATE ends where all SPIN together is just a round, or just not. */
    private static void dueLoops(String law, int speed, int ticks, int turned, int loops) {
        DartHangar h = straight(law);
        h.crate(speed * ticks, 9999);
        int sum = 0;
        for (int t = 1; t <= ticks; t++) {
            sum += h.at(0, -9, speed, 0, t, 5);
        }
        check.due(turned, sum, "all SPIN of " + ticks + " TICKS");
        check.due(ticks, h.fly(0, -9, speed, 0, 1), "LONG to the CRATE");
        check.due(loops, h.fly(0, -9, speed, 0, 4), "LOOPS of " + turned);
    }

    private static void even() {
        check.says(11, "EVEN: the first TICK from which on 20 TICKS (at least) to the end have a SPIN of -2 to 2 each.");
        // slow 9, SPEED 500, EARS 9: turn 8: 18 less 16 is 2, then 20 less 18 is 2 ..; turn 10: 22 less 19 is 3, then 25 less 22 is 3 ..
        DartHangar two = straight("turn 8;slow 9;");
        DartHangar three = straight("turn 10;slow 9;");
        for (int e = -9; e <= 9; e += 18) {
            check.due(e < 0 ? -2 : 2, two.at(0, e, 500, 0, 100, 5), "SPIN by turn 8");
            check.due(1, two.fly(0, e, 500, 0, 5), "EVEN with a SPIN of 2, EARS " + e);
            check.due(e < 0 ? -3 : 3, three.at(0, e, 500, 0, 100, 5), "SPIN by turn 10");
            check.due(-1, three.fly(0, e, 500, 0, 5), "EVEN with a SPIN of 3, EARS " + e);
        }
        // What an earlier FLIGHT was like does not count.
        check.due(1, three.fly(0, 0, 500, 0, 5), "EVEN with EARS 0 behind a FLIGHT that was not");
        // 20 TICKS just are enough, 19 are not.
        two.crate(500 * 20, 9999);
        check.due(1, two.fly(0, 9, 500, 0, 5), "EVEN of 20 TICKS");
        two.crate(500 * 19, 9999);
        check.due(-1, two.fly(0, 9, 500, 0, 5), "EVEN of 19 TICKS");
        evenLater();
    }

    /** Drag eats the SPEED, so the SPIN falls to 2 some TICKS later; a CRATE ends it where so many even TICKS have been. */
    private static void evenLater() {
        String law = "lift 0 0 0 0 0 0 0 0 0;drag 1 1 1 1 1 1 1 1 1;turn 10;slow 9;";
        DartHangar h = Check.hangar(law);
        h.draught(1, 200, 10);
        int uneven = 0;
        for (int t = 1; t <= 200; t++) {
            int spin = h.at(0, 9, 700, 0, t, 5);
            uneven = spin < -2 || spin > 2 ? t : uneven;
        }
        check.due(true, uneven > 1 && uneven < 100, "the last uneven TICK is early (" + uneven + ")");
        check.due(uneven + 1, h.fly(0, 9, 700, 0, 5), "EVEN from the next TICK on");
        for (int many = 19; many <= 21; many++) {
            DartHangar ends = Check.hangar(law);
            ends.draught(1, 200, 10);
            ends.crate(h.at(0, 9, 700, 0, uneven + many, 0), 9999);
            check.due(uneven + many, ends.fly(0, 9, 700, 0, 1), "LONG with " + many + " even TICKS");
            check.due(many < 20 ? -1 : uneven + 1, ends.fly(0, 9, 700, 0, 5), "EVEN with " + many + " even TICKS");
        }
    }

    // ---- promise 13

    private static void aDraughtMore() {
        check.says(13, "A DRAUGHT more: its number; NONE if there are 4.");
        DartHangar h = new DartHangar();
        for (int i = 0; i < 4; i++) {
            check.due(i, h.draught(1, 200, i), "number of a DRAUGHT");
            check.due(i + 1, h.count(10), "DRAUGHTS");
        }
        check.due(-1, h.draught(1, 200, 20), "a fifth DRAUGHT");
        check.due(4, h.count(10), "DRAUGHTS then");
        check.due(4, h.still(), "still()");
        check.due(0, h.draught(1, 1, 1), "numbers begin anew");
    }

    private static void fourDraughts() {
        check.says(13, "DRAUGHTS, at most 4");
        DartHangar h = Check.hangar(Check.STONE);
        for (int i = 0; i < 5; i++) {
            h.draught(1, 200, -10);
        }
        // pull 10 and four times 10, not five times.
        check.due(-50, h.at(0, 0, 100, 0, 1, 3), "VY behind TICK 1");
    }

    private static void wrongDraught() {
        check.says(13, "IllegalArgumentException: a number, from above to.");
        DartHangar h = new DartHangar();
        int[][] wrong = {{0, 5, 1}, {1, 201, 1}, {5, 4, 1}, {201, 201, 1}, {1, 2, 21}, {1, 2, -21}, {1, 0, 1}, {0, 0, 0}, {200, 1, 0}};
        for (int[] a : wrong) {
            check.refused(Check.ARGUMENT, "draught(" + a[0] + ", " + a[1] + ", " + a[2] + ")", () -> h.draught(a[0], a[1], a[2]));
        }
        for (int wild : Check.WILD) {
            check.refused(Check.ARGUMENT, "from " + wild, () -> h.draught(wild, 5, 1));
            check.refused(Check.ARGUMENT, "to " + wild, () -> h.draught(5, wild, 1));
            check.refused(Check.ARGUMENT, "from and to " + wild, () -> h.draught(wild, wild, 1));
            check.refused(Check.ARGUMENT, "v " + wild, () -> h.draught(5, 5, wild));
        }
        check.due(0, h.count(10), "DRAUGHTS behind refused ones");
        int[][] fine = {{1, 1, -20}, {200, 200, 20}, {1, 200, 0}, {5, 5, 0}};
        for (int[] a : fine) {
            check.due(h.count(10), h.draught(a[0], a[1], a[2]), "draught(" + a[0] + ", " + a[1] + ", " + a[2] + ")");
        }
        check.refused(Check.ARGUMENT, "a wrong fifth DRAUGHT", () -> h.draught(2, 1, 1));
    }

    private static void draughtTicks() {
        check.says(13, "in TICKS from one to one (1 to 200)");
        // VY falls by 10 in each TICK, but in those of the draught.
        int[][] spans = {{1, 1}, {1, 3}, {3, 3}, {2, 5}, {6, 6}};
        for (int[] span : spans) {
            DartHangar h = Check.hangar(Check.STONE);
            h.draught(span[0], span[1], 7);
            int vy = 0;
            for (int t = 1; t <= 8; t++) {
                vy -= t >= span[0] && t <= span[1] ? 3 : 10;
                check.due(vy, h.at(0, 0, 100, 0, t, 3), "VY behind TICK " + t + " with a draught of " + span[0] + " to " + span[1]);
            }
        }
        DartHangar last = straight("turn 0;");
        last.draught(200, 200, 5);
        check.due(0, last.at(0, 0, 100, 0, 199, 3), "VY behind TICK 199");
        check.due(5, last.at(0, 0, 100, 0, 200, 3), "VY behind TICK 200");
    }

    private static void draughtsTogether() {
        check.says(13, "pull is so much less (-20 to 20; of several all together).");
        DartHangar h = Check.hangar(Check.STONE);
        h.draught(1, 200, 20);
        check.due(10, h.at(0, 0, 100, 0, 1, 3), "VY by 20");
        h.draught(2, 3, -20);
        h.draught(3, 3, -5);
        h.draught(3, 4, 1);
        // 0 - 10 + 20, then - 10, then - 14, then + 11, then + 10.
        int[] want = {0, 10, 0, -14, -3, 7};
        for (int t = 0; t < want.length; t++) {
            check.due(want[t], h.at(0, 0, 100, 0, t, 3), "VY behind TICK " + t);
        }
        DartHangar down = Check.hangar(Check.STONE);
        down.draught(1, 200, -20);
        check.due(-30, down.at(0, 0, 100, 0, 1, 3), "VY by -20");
    }

    // ---- promise 14

    private static void aCrateMore() {
        check.says(14, "A CRATE more: its number; NONE if there are 3.");
        DartHangar h = new DartHangar();
        for (int i = 0; i < 3; i++) {
            check.due(i, h.crate(1000 + i, 10), "number of a CRATE");
            check.due(i + 1, h.count(11), "CRATES");
        }
        check.due(-1, h.crate(1, 9999), "a fourth CRATE");
        check.due(3, h.count(11), "CRATES then");
        check.due(3, h.still(), "still()");
        check.due(0, h.crate(1, 1), "numbers begin anew");
    }

    private static void threeCrates() {
        check.says(14, "CRATES, at most 3: at x (1 to 99999), y high (1 to 9999).");
        DartHangar h = Check.hangar(Check.STONE);
        check.due(0, h.crate(1, 1), "the least CRATE");
        check.due(1, h.crate(99999, 9999), "the greatest CRATE");
        check.due(2, h.crate(3000, 9999), "the third CRATE");
        check.due(-1, h.crate(500, 9999), "a fourth CRATE");
        check.due(2000, h.fly(0, 0, 100, 0, 0), "FAR: the fourth one is not there");
        check.due(3000, h.fly(0, 0, 200, 0, 0), "FAR: the third one is");
        check.refused(Check.ARGUMENT, "x 0", () -> h.crate(0, 1));
        check.refused(Check.ARGUMENT, "x 100000", () -> h.crate(100000, 1));
        check.refused(Check.ARGUMENT, "y 0", () -> h.crate(1, 0));
        check.refused(Check.ARGUMENT, "y 10000", () -> h.crate(1, 10000));
    }

    private static void wrongCrate() {
        check.says(14, "IllegalArgumentException: a number.");
        DartHangar h = new DartHangar();
        for (int wild : Check.WILD) {
            check.refused(Check.ARGUMENT, "x " + wild, () -> h.crate(wild, 5));
            check.refused(Check.ARGUMENT, "y " + wild, () -> h.crate(5, wild));
        }
        int[][] wrong = {{0, 1}, {1, 0}, {100000, 1}, {1, 10000}, {-1, 5}, {5, -1}, {0, 0}};
        for (int[] a : wrong) {
            check.refused(Check.ARGUMENT, "crate(" + a[0] + ", " + a[1] + ")", () -> h.crate(a[0], a[1]));
        }
        check.due(0, h.count(11), "CRATES behind refused ones");
    }

    // ---- promise 15

    private static void still() {
        check.says(15, "No DRAUGHTS, no CRATES any more: how many there were.");
        DartHangar h = Check.hangar(Check.STONE);
        check.due(0, h.still(), "still() of none");
        h.draught(1, 200, 10);
        check.due(1, h.still(), "still() of a DRAUGHT");
        h.crate(5, 5);
        check.due(1, h.still(), "still() of a CRATE");
        for (int i = 0; i < 4; i++) {
            h.draught(1, 200, 5);
            h.crate(100, 9999);
        }
        check.due(7, h.still(), "still() of all that can be");
        check.due(0, h.count(10), "DRAUGHTS");
        check.due(0, h.count(11), "CRATES");
        dueFlight(h, new int[] {0, 0, 100, 0}, 2000, 20, 2000, 1);
        check.due(0, h.still(), "still() once more");
    }

    // ---- promise 16

    private static void damp() {
        check.says(16, "DAMP: what it was. IllegalArgumentException: the number.");
        DartHangar h = new DartHangar();
        check.due(0, h.damp(50), "DAMP at first");
        check.due(50, h.damp(3), "DAMP then");
        check.refused(Check.ARGUMENT, "damp(51)", () -> h.damp(51));
        check.refused(Check.ARGUMENT, "damp(-1)", () -> h.damp(-1));
        for (int wild : Check.WILD) {
            check.refused(Check.ARGUMENT, "damp(" + wild + ")", () -> h.damp(wild));
        }
        check.due(3, h.count(13), "DAMP behind refused ones");
        check.due(3, h.damp(0), "DAMP behind refused ones");
        check.due(0, h.damp(0), "DAMP 0");
    }

    private static void dampBounds() {
        check.says(16, "DAMP (0 to 50; 0 at first)");
        DartHangar h = new DartHangar();
        check.due(0, h.count(13), "DAMP at first");
        h.damp(50);
        check.due(50, h.count(13), "the greatest DAMP");
        h.damp(0);
        check.due(0, h.count(13), "the least DAMP");
        check.refused(Check.ARGUMENT, "damp(51)", () -> h.damp(51));
        check.refused(Check.ARGUMENT, "damp(-1)", () -> h.damp(-1));
    }

    private static void dampWeight() {
        check.says(16, "W counts W times DAMP by 100 more, cut, in LIFT, DRAG and T.");
        DartHangar h = Check.hangar("lift 8 0 0 0 0 0 0 0 0;turn 0;pull 1;");
        h.damp(50);
        // DRAG 2 250 36 by ((48 + 24) 10) = 25, LIFT 8 250 36 by 720 = 100.
        check.due(475, h.at(1, 0, 500, 0, 1, 2), "VX with DAMP 50");
        check.due(99, h.at(1, 0, 500, 0, 1, 3), "VY with DAMP 50");
        // 48 3 by 100 is 1.4: DRAG 18000 by 490 = 36, LIFT 72000 by 490 = 146.
        h.damp(3);
        check.due(464, h.at(1, 0, 500, 0, 1, 2), "VX with DAMP 3");
        check.due(145, h.at(1, 0, 500, 0, 1, 3), "VY with DAMP 3");
        // 48 2 by 100 is 0: as without DAMP.
        h.damp(2);
        check.due(463, h.at(1, 0, 500, 0, 1, 2), "VX with DAMP 2");
        check.due(149, h.at(1, 0, 500, 0, 1, 3), "VY with DAMP 2");
        // 288 and 144: DRAG 3 250 288 by 432 is just 500; of 100, 1 is just 1: DRAG 4 250 100 by 101 is 990.
        dueDampDrag(24, 12, 50, 3, 500);
        dueDampDrag(10, 10, 1, 4, 990);
        // WEIGHT and LEVER of the MAKE stay.
        h.damp(50);
        int[] want = {6, 6, 36, 48, 240, 216, 10};
        for (int what = 0; what <= 6; what++) {
            check.due(want[what], h.make(1, what), "make(1, " + what + ") with DAMP 50");
        }
        // T: 2 (48 + 24) 10 = 1440 = LEVER S lift: 10 36 4.
        Check.law(h, "lift 0 0 4 9 9 9 9 9 9;");
        check.due(102, h.rest(1, 2, 0), "a REST at 2 with DAMP 50");
        h.damp(0);
        check.due(101, h.rest(1, 2, 0), "a REST between 1 and 2 without");
        // 49 10 2 = 980 with DAMP 3: above 360 2 = 720, below 360 3 = 1080.
        h.damp(3);
        check.due(101, h.rest(1, 2, 0), "a REST between 1 and 2 with DAMP 3");
    }

    /** What DRAG takes of SPEED 500 in TICK 1, on a whole SHEET of this size, thin being 1. */
    private static void dueDampDrag(int rows, int columns, int damp, int drag, int want) {
        DartHangar h = Check.folded(rows, columns, "");
        Check.law(h, "turn 0;thin 1;drag " + drag + " 0 0 0 0 0 0 0 0;");
        h.damp(damp);
        check.due(500 - want, h.at(0, 0, 500, 0, 1, 2), "VX with DAMP " + damp + " on " + rows + " by " + columns);
    }

    // ---- promise 17

    private static void bestSlant() {
        check.says(17, "BEST SLANT.");
        DartHangar h = Check.hangar("");
        for (int e = -9; e <= 9; e += 6) {
            int far = -16;
            int lasted = -16;
            for (int s = -16; s <= 16; s++) {
                far = h.fly(1, e, 150, s, 0) > h.fly(1, e, 150, far, 0) ? s : far;
                lasted = h.fly(1, e, 150, s, 1) > h.fly(1, e, 150, lasted, 1) ? s : lasted;
            }
            check.due(far, h.slant(1, e, 150, false), "BEST SLANT for far, EARS " + e);
            check.due(lasted, h.slant(1, e, 150, true), "BEST SLANT for long, EARS " + e);
        }
    }

    private static void bestSlantTerms() {
        check.says(17, "BEST SLANT of a MAKE with EARS and a SPEED: of -16 to 16 that with the greatest FAR (or LONG); of like ones the least.");
        DartHangar h = Check.hangar(Check.STONE);
        // SLANTS 14, 15 and 16 last 32 TICKS all: VY 98 or more of 100.
        check.due(14, h.slant(0, 0, 100, true), "BEST SLANT for long");
        check.due(32, h.fly(0, 0, 100, 14, 1), "LONG of 14");
        check.due(32, h.fly(0, 0, 100, 16, 1), "LONG of 16");
        check.due(31, h.fly(0, 0, 100, 13, 1), "LONG of 13");
        // A SPEED of which 16 alone lasts longest: the last SLANT is tried too.
        int only = 10;
        for (int speed = 10; speed <= 400; speed++) {
            only = h.fly(0, 0, speed, 16, 1) > h.fly(0, 0, speed, 15, 1) ? speed : only;
        }
        check.due(16, h.slant(0, 0, only, true), "BEST SLANT for long of SPEED " + only);
        // A CRATE at 1 that no SLANT but straight up and down misses: FAR is 1 for -15 to 15, and 0 for -16 and 16.
        h.crate(1, 9999);
        check.due(-15, h.slant(0, 0, 100, false), "BEST SLANT for far of like ones");
        // FAR below 0 for all, the greatest still wins; -16 and 16 have 0.
        DartHangar back = Check.hangar("turn 0;thin 1;lift 0 0 0 0 0 0 0 0 0;drag 22 0 0 0 0 0 0 0 0;");
        check.due(-16, back.slant(0, 0, 200, false), "BEST SLANT where FAR is 0 or below");
        // LIFT that pushes all backwards: the greatest FAR is below 0.
        DartHangar below = Check.hangar("turn 0;thin 1;lift 3 0 0 0 0 0 0 0 3;drag 44 0 0 0 0 0 0 0 0;");
        int best = -16;
        for (int s = -16; s <= 16; s++) {
            best = below.fly(0, 0, 200, s, 0) > below.fly(0, 0, 200, best, 0) ? s : best;
        }
        check.due(best, below.slant(0, 0, 200, false), "BEST SLANT where most FAR are below 0");
        check.refused(Check.ARGUMENT, "slant with EARS -10", () -> h.slant(0, -10, 100, true));
        check.refused(Check.ARGUMENT, "slant with EARS 10", () -> h.slant(0, 10, 100, true));
        check.refused(Check.ARGUMENT, "slant with SPEED 9", () -> h.slant(0, 0, 9, true));
        check.refused(Check.ARGUMENT, "slant with SPEED 1000", () -> h.slant(0, 0, 1000, true));
    }
}

/** Promise 12, and the terms of a TICK: all numbers are worked out by hand. */
public final class TicksTest {
    private static final Check check = new Check();

    public static void main(String[] args) {
        sines();
        sineOfARound();
        cosine();
        ears();
        speed();
        slant();
        atFirst();
        quotients();
        path();
        attackByRounds();
        attackKept();
        q();
        lift();
        drag();
        spin();
        slow();
        spinKept();
        nose();
        velocity();
        velocityKept();
        moves();
        roof();

        behindTicks();
        whatOfATick();
        check.end();
    }

    /** What is due of at(), from X on, of a THROW: WAY, EARS, SPEED, SLANT. */
    private static void dueState(DartHangar h, int[] thrown, int ticks, int... want) {
        for (int what = 0; what < want.length; what++) {
            check.due(want[what], h.at(thrown[0], thrown[1], thrown[2], thrown[3], ticks, what),
                "at(" + thrown[0] + ", " + thrown[1] + ", " + thrown[2] + ", " + thrown[3] + ", " + ticks + ", " + what + ")");
        }
    }

    /** An air with a draught that takes all pull away (10), so that a FLIGHT goes straight on. */
    private static DartHangar weightless(String law) {
        DartHangar h = Check.hangar(law);
        h.draught(1, 200, 10);
        return h;
    }

    // ---- directions

    /** SIN of 0 to 63, written out. */
    private static final int[] ROUND = {
        0, 98, 195, 290, 383, 471, 556, 634, 707, 773, 831, 882, 924, 957, 981, 995,
        1000, 995, 981, 957, 924, 882, 831, 773, 707, 634, 556, 471, 383, 290, 195, 98,
        0, -98, -195, -290, -383, -471, -556, -634, -707, -773, -831, -882, -924, -957, -981, -995,
        -1000, -995, -981, -957, -924, -882, -831, -773, -707, -634, -556, -471, -383, -290, -195, -98};

    private static void sines() {
        check.says(12, "SINES of 0 to 16: 0, 98, 195, 290, 383, 471, 556, 634, 707, 773, 831, 882, 924, 957, 981, 995, 1000.");
        DartHangar h = Check.hangar(Check.STONE);
        // SPEED 999 tells each from the ones beside it: 999 98 by 1000 is 97.
        for (int s = 0; s <= 16; s++) {
            int want = s == 0 ? 0 : s == 16 ? 999 : ROUND[s] - 1;
            check.due(want, h.at(0, 0, 999, s, 0, 3), "999 times SIN of " + s);
        }
    }

    /** Thrown at a SLANT into an air that throws it back: in TICK 2 its PATH is 32 further, and DRAG shows SIN and COS of it. */
    private static void dueThrownBack(int slant, boolean sine) {
        DartHangar h = weightless("lift 0 0 0 0 0 0 0 0 0;drag 30 0 0 0 0 0 0 0 50;turn 0;thin 1;");
        int vx = h.at(0, 0, 100, slant, 1, 2);
        int vy = h.at(0, 0, 100, slant, 1, 3);
        int drag = 50 * ((vx * vx + vy * vy) / 1000);
        int d = slant + 32;
        int want = sine ? vy - drag * ROUND[d] / 1000 : vx - drag * ROUND[(d + 16) % 64] / 1000;
        check.due(want, h.at(0, 0, 100, slant, 2, sine ? 3 : 2), (sine ? "VY" : "VX") + " thrown back along " + d);
    }

    private static void sineOfARound() {
        check.says(12, "SIN of d (64 to a round): for 17 to 32 as of 32 less d; for 33 to 63 as of d less 32, below 0.");
        DartHangar h = Check.hangar(Check.STONE);
        for (int s = -16; s < 0; s++) {
            int want = s == -16 ? -999 : ROUND[64 + s] + 1;
            check.due(want, h.at(0, 0, 999, s, 0, 3), "999 times SIN of " + (64 + s));
        }
        for (int s = -16; s <= 16; s++) {
            dueThrownBack(s, true);
        }
    }

    private static void cosine() {
        check.says(12, "COS of d: SIN of d and 16 (64 less, if that is 64 or more).");
        DartHangar h = Check.hangar(Check.STONE);
        for (int s = -16; s <= 16; s++) {
            int cos = ROUND[(s + 16 + 64) % 64];
            check.due(999 * cos / 1000, h.at(0, 0, 999, s, 0, 2), "999 times COS of " + (64 + s) % 64);
        }
        for (int s = -16; s <= 16; s++) {
            dueThrownBack(s, false);
        }
    }

    // ---- a throw

    private static void ears() {
        check.says(12, "A FLIGHT of a MAKE with EARS e (-9 to 9)");
        DartHangar h = weightless("lift 0 0 0 0 0 0 0 0 0;drag 0 0 0 0 0 0 0 0 0;slow 0;");
        // Q 250: SPIN e 250 10 by 1000.
        int[] spins = {0, 2, 5, 7, 10, 12, 15, 17, 20, 22};
        for (int e = 0; e <= 9; e++) {
            check.due(spins[e], h.at(0, e, 500, 0, 1, 5), "SPIN by EARS " + e);
            check.due(-spins[e], h.at(0, -e, 500, 0, 1, 5), "SPIN by EARS " + -e);
        }
        check.refused(Check.ARGUMENT, "EARS -10", () -> h.at(0, -10, 500, 0, 1, 5));
        check.refused(Check.ARGUMENT, "EARS 10", () -> h.at(0, 10, 500, 0, 1, 5));
    }

    private static void speed() {
        check.says(12, "thrown with a SPEED (10 to 999)");
        DartHangar h = Check.hangar(Check.STONE);
        check.refused(Check.ARGUMENT, "SPEED 9", () -> h.at(0, 0, 9, 0, 0, 2));
        check.due(10, h.at(0, 0, 10, 0, 0, 2), "VX of SPEED 10");
        check.due(999, h.at(0, 0, 999, 0, 0, 2), "VX of SPEED 999");
        check.refused(Check.ARGUMENT, "SPEED 1000", () -> h.at(0, 0, 1000, 0, 0, 2));
    }

    private static void slant() {
        check.says(12, "at a SLANT (-16 to 16: a direction, 64 more if below 0)");
        DartHangar h = Check.hangar(Check.STONE);
        check.refused(Check.ARGUMENT, "SLANT -17", () -> h.at(0, 0, 100, -17, 0, 4));
        check.refused(Check.ARGUMENT, "SLANT 17", () -> h.at(0, 0, 100, 17, 0, 4));
        int[] slants = {-16, -15, -1, 0, 1, 15, 16};
        int[] noses = {16 * 48, 16 * 49, 16 * 63, 0, 16, 240, 256};
        for (int i = 0; i < slants.length; i++) {
            check.due(noses[i], h.at(0, 0, 100, slants[i], 0, 4), "NOSE of SLANT " + slants[i]);
        }
    }

    private static void atFirst() {
        check.says(12, "at first X is 0, Y 2000, VX is SPEED times COS by 1000, VY SPEED times SIN by 1000, NOSE 16 times the direction, SPIN 0.");
        DartHangar h = Check.hangar("");
        dueState(h, new int[] {1, 9, 100, 0}, 0, 0, 2000, 100, 0, 0, 0);
        dueState(h, new int[] {1, -9, 100, 16}, 0, 0, 2000, 0, 100, 256, 0);
        dueState(h, new int[] {1, 5, 100, -16}, 0, 0, 2000, 0, -100, 768, 0);
        dueState(h, new int[] {1, 5, 333, 8}, 0, 0, 2000, 235, 235, 128, 0);
        dueState(h, new int[] {1, 5, 333, -8}, 0, 0, 2000, 235, -235, 896, 0);
    }

    private static void quotients() {
        check.says(12, "All quotients are cut towards 0.");
        DartHangar h = Check.hangar("");
        // -999 98 by 1000 is -97.9.
        check.due(-97, h.at(0, 0, 999, -1, 0, 3), "VY below 0 at first");
        // SPIN -9 250 10 by 1000 is -22.5; of -22 goes -6.6.
        check.due(-22 + 6, h.at(0, -9, 500, 0, 1, 5), "a SPIN below 0");
        // SPEED 100 at SLANT 4: VX 92, VY 38, Q 9, DRAG 2 9 by 10 is 1: VX 92 - 924 by 1000.
        check.due(92, h.at(0, 0, 100, 4, 1, 2), "a push of less than 1 backwards");
        // ATTACK -1: LIFT -(10 9 by 100) is 0, not -1; VY 6 ahead of it, as below.
        DartHangar weak = Check.hangar("turn 0;drag 0 0 0 0 0 0 0 0 0;thin 99;");
        weak.draught(1, 1, 16);
        // (98, 6): PATH 1; Q 9; LIFT -(10 9 by 99): 0; VY 6 - 10.
        check.due(-4, weak.at(0, 0, 98, 0, 2, 3), "a LIFT of less than 1 downwards");
    }

    // ---- a TICK

    private static void path() {
        check.says(12, "A TICK: PATH: the direction d (0 to 63) with the greatest VX COS + VY SIN, of like ones the least.");
        // Level, then a little up or down: 98 1000 is as much as 98 995 + 5 98, so 0 and 1 (or 63) are alike: 0.
        // DRAG of ATTACK 0 is none, of ATTACK 1 and -1 it would be 99 9: VX shows which it was.
        String aside = "turn 0;thin 1;lift 0 0 0 0 0 0 0 0 0;drag 0 99 0 0 0 0 0 0 0;";
        check.due(98, inTick2(aside, 98, 15), "VX of (98, 5): PATH 0");
        check.due(98 - 886, inTick2(aside, 98, 16), "VX of (98, 6): PATH 1");
        check.due(98, inTick2(aside, 98, 5), "VX of (98, -5): PATH 0");
        check.due(98 - 886, inTick2(aside, 98, 4), "VX of (98, -6): PATH 63");
        // (97, 14): 97 995 + 14 98 is as much as 97 981 + 14 195: 1 and 2 (or 62 and 63) are alike: 1, and 62.
        check.due(97 - 886, inTick2(aside, 97, 24), "VX of (97, 14): PATH 1");
        check.due(97, inTick2(aside, 97, 25), "VX of (97, 15): PATH 2");
        check.due(97, inTick2(aside, 97, -4), "VX of (97, -14): PATH 62");
        check.due(97 - 886, inTick2(aside, 97, -3), "VX of (97, -13): PATH 63");
        pathBetweenAllSteps();
        pathBackwards();
        pathUpAndDown();
    }

    /** Where two directions beside each other are alike, all round a quarter: VX is one's rise, VY the other's. */
    private static void pathBetweenAllSteps() {
        for (int k = 1; k <= 7; k++) {
            int vx = ROUND[k + 1] - ROUND[k];
            int vy = ROUND[16 - k] - ROUND[15 - k];
            // NOSE 0: DRAG of ATTACK k alone.
            String law = "turn 0;thin 1;lift 0 0 0 0 0 0 0 0 0;" + dragOf(k);
            check.due(true, aside(law, vx, vy), "(" + vx + ", " + vy + "): PATH " + k);
            check.due(false, aside(law, vx, vy + 1), "(" + vx + ", " + (vy + 1) + "): PATH " + (k + 1));
            check.due(false, aside(law, vx, -vy), "(" + vx + ", " + -vy + "): PATH " + (63 - k));
            check.due(true, aside(law, vx, 1 - vy), "(" + vx + ", " + (1 - vy) + "): PATH " + (64 - k));
        }
        for (int k = 8; k <= 14; k++) {
            int vx = ROUND[k + 1] - ROUND[k];
            int vy = ROUND[16 - k] - ROUND[15 - k];
            // NOSE 16 (or 48): LIFT of ATTACK 0 pushes aside in TICK 1; DRAG of ATTACK 15 - k alone, in TICK 2.
            for (int slant = -16; slant <= 16; slant += 32) {
                int sign = slant < 0 ? -1 : 1;
                for (int more = 0; more <= 1; more++) {
                    int q = vy * vy / 1000;
                    DartHangar h = weightless("turn 0;thin " + q + ";lift " + (vx + more) + " 0 0 0 0 0 0 0 0;" + dragOf(15 - k));
                    check.due(-sign * (vx + more), h.at(0, 0, vy, slant, 1, 2), "VX behind TICK 1");
                    check.due(sign * vy, h.at(0, 0, vy, slant, 1, 3), "VY behind TICK 1");
                    boolean dragged = h.at(0, 0, vy, slant, 2, 3) != sign * vy;
                    check.due(more == 0, dragged, "(" + -sign * (vx + more) + ", " + sign * vy + "): ATTACK " + (k - 15 - more));
                }
            }
        }
    }

    private static String dragOf(int attack) {
        StringBuilder line = new StringBuilder("drag");
        for (int i = 0; i <= 8; i++) {
            line.append(i == attack ? " 99" : " 0");
        }
        return line.append(';').toString();
    }

    /** Whether DRAG shows in TICK 2 of a SPEED at SLANT 0, VY being so much behind TICK 1. */
    private static boolean aside(String law, int speed, int vy) {
        DartHangar h = Check.hangar(law + "pull 1;");
        int up = vy + 1;
        for (int i = 0; i < 4; i++) {
            int part = Math.max(-20, Math.min(20, up));
            h.draught(1, 1, part);
            up -= part;
        }
        check.due(vy, h.at(0, 0, speed, 0, 1, 3), "VY behind TICK 1");
        return h.at(0, 0, speed, 0, 2, 2) != speed;
    }

    /** VX behind TICK 2 of a SPEED at SLANT 0, VY being 10 less than up behind TICK 1. */
    private static int inTick2(String law, int speed, int up) {
        DartHangar h = Check.hangar(law);
        h.draught(1, 1, Math.max(-20, Math.min(20, up)));
        if (up > 20) {
            h.draught(1, 1, up - 20);
        }
        return h.at(0, 0, speed, 0, 2, 2);
    }

    private static void pathBackwards() {
        // SPEED 194: Q 37, DRAG 71 37 by 9 = 291: VX -97. Then Q 9, DRAG 99 9 by 9 = 99 along the PATH.
        String back = "turn 0;thin 9;lift 0 0 0 0 0 0 0 0 0;drag 71 0 0 0 0 0 0 0 99;";
        // (-97, 14): 30 and 31 are alike: 30 (COS -981: 97). (-97, 13): 31 (COS -995: 98). (-97, 15): 30.
        check.due(-97 + 97, inTick2(back, 194, 24), "VX of (-97, 14): PATH 30");
        check.due(-97 + 98, inTick2(back, 194, 23), "VX of (-97, 13): PATH 31");
        check.due(-97 + 97, inTick2(back, 194, 25), "VX of (-97, 15): PATH 30");
        // (-97, -14): 33 and 34 are alike: 33. (-97, -15): 34.
        check.due(-97 + 98, inTick2(back, 194, -4), "VX of (-97, -14): PATH 33");
        check.due(-97 + 97, inTick2(back, 194, -5), "VX of (-97, -15): PATH 34");
        check.due(-97 + 99, inTick2(back, 194, 10), "VX of (-97, 0): PATH 32");
        // SPEED 196: Q 38, DRAG 31 38 by 4 = 294: VX -98. Then Q 9, DRAG 99 9 by 4 = 222.
        String half = "turn 0;thin 4;lift 0 0 0 0 0 0 0 0 0;drag 31 0 0 0 0 0 0 0 99;";
        // (-98, 5): 31 and 32 are alike: 31 (220). (-98, -5): 32 and 33: 32 (222).
        check.due(-98 + 220, inTick2(half, 196, 15), "VX of (-98, 5): PATH 31");
        check.due(-98 + 222, inTick2(half, 196, 14), "VX of (-98, 4): PATH 32");
        check.due(-98 + 222, inTick2(half, 196, 5), "VX of (-98, -5): PATH 32");
        check.due(-98 + 220, inTick2(half, 196, 4), "VX of (-98, -6): PATH 33");
    }

    private static void pathUpAndDown() {
        // Straight up with SPEED 98: Q 9, LIFT 5 9 by 9 = 5 of ATTACK 0 pushes to VX -5. (-5, 98): 16 and 17 are alike: 16.
        String up = "turn 0;thin 9;lift 5 0 0 0 0 0 0 0 0;drag 0 99 0 0 0 0 0 0 0;";
        DartHangar h = weightless(up);
        dueState(h, new int[] {0, 0, 98, 16}, 1, -5, 2098, -5, 98);
        dueState(h, new int[] {0, 0, 98, 16}, 2, -15, 2196, -10, 98);
        // (5, -98), thrown straight down: 48 and 49 are alike: 48.
        dueState(h, new int[] {0, 0, 98, -16}, 1, 5, 1902, 5, -98);
        dueState(h, new int[] {0, 0, 98, -16}, 2, 15, 1804, 10, -98);
        // LIFT 6: (-6, 98) is 17: ATTACK -1: DRAG 99 9 by 9 = 99, VY 98 - 99 995 by 1000.
        DartHangar more = weightless("turn 0;thin 9;lift 6 0 0 0 0 0 0 0 0;drag 0 99 0 0 0 0 0 0 0;");
        dueState(more, new int[] {0, 0, 98, 16}, 2, -6 - 6 + 9, 2098, 3, 0);
        // Thrown straight down, and thrown back up: SPEED 196: Q 38, DRAG 31 38 by 4 = 294, LIFT 38 by 4 = 9.
        DartHangar back = weightless("turn 0;thin 4;lift 1 0 0 0 0 0 0 0 0;drag 31 0 0 0 0 0 0 0 99;");
        dueState(back, new int[] {0, 0, 196, -16}, 1, 9, 2098, 9, 98);
        // 9 98 + 98 995 = 98392, 9 195 + 98 981 = 97893: PATH 15. Q 9, DRAG 222: VX 9 - 21, VY 98 - 220.
        dueState(back, new int[] {0, 0, 196, -16}, 2, 9 - 12, 2098 - 122, -12, -122);
    }

    private static void attackByRounds() {
        check.says(12, "ATTACK: NOSE by 16, less PATH, brought to -32 .. 31 by rounds of 64");
        // Thrown back as above: VX -97. LIFT of ATTACK 8 is 10 9 by 9 = 10, of -8 it is -10.
        String law = "turn 0;thin 9;lift 0 0 0 0 0 0 0 0 10;drag 71 0 0 0 0 0 0 0 0;";
        DartHangar h = weightless(law);
        // NOSE 0, PATH 32: -32: LIFT -10 along COS -1000.
        dueState(h, new int[] {0, 0, 194, 0}, 1, -97, 2000, -97, 0);
        dueState(h, new int[] {0, 0, 194, 0}, 2, -194, 2010, -97, 10);
        // SLANT -4, NOSE by 16 is 60: VX 179, VY -74, then (-89, 37): PATH 28: 32, so -32: LIFT -10: VX + 3, VY + 9.
        dueState(h, new int[] {0, 0, 194, -4}, 1, -89, 2037, -89, 37);
        dueState(h, new int[] {0, 0, 194, -4}, 2, -89 - 86, 2037 + 46, -86, 46);
        // NOSE 0, PATH 33: -33, so 31: LIFT 10: VY -14 - 9.
        DartHangar down = weightless(law);
        down.draught(1, 1, -14);
        dueState(down, new int[] {0, 0, 194, 0}, 1, -97, 1986, -97, -14);
        dueState(down, new int[] {0, 0, 194, 0}, 2, -194, 1986 - 23, -97, -23);
        // NOSE 0, PATH 31: -31: LIFT -10: VX + 0, VY 8 + 9.
        DartHangar up = weightless(law);
        up.draught(1, 1, 8);
        dueState(up, new int[] {0, 0, 194, 0}, 2, -194, 2008 + 17, -97, 17);
        // SLANT -4 again, with VY lower: (-89, 28): PATH 29: 60 - 29 = 31: LIFT 9 8 .. : Q 8, LIFT 10 8 by 9 = 8: VX - 2, VY - 7.
        DartHangar flat = weightless(law);
        flat.draught(1, 1, -9);
        dueState(flat, new int[] {0, 0, 194, -4}, 1, -89, 2028, -89, 28);
        dueState(flat, new int[] {0, 0, 194, -4}, 2, -89 - 91, 2028 + 21, -91, 21);
        // A round the other way: NOSE 0, PATH 63: -63, so 1.
        check.due(98 - 886, inTick2("turn 0;thin 1;lift 0 0 0 0 0 0 0 0 0;drag 0 99 0 0 0 0 0 0 0;", 98, 3), "ATTACK 1 across 0");
        // SLANT -1, NOSE by 16 is 63; SPEED 98: (97, -9), then (97, 0): PATH 0: 63, so -1.
        DartHangar across = weightless("turn 0;thin 1;lift 0 0 0 0 0 0 0 0 0;drag 0 99 0 0 0 0 0 0 0;");
        across.draught(1, 1, 9);
        dueState(across, new int[] {0, 0, 98, -1}, 1, 97, 2000, 97, 0);
        dueState(across, new int[] {0, 0, 98, -1}, 2, 97 - 794, 2000, 97 - 891, 0);
    }

    private static void attackKept() {
        check.says(12, "then to -8 .. 8 (nearer ones stay).");
        // Level NOSE; (50, -41) is 7 below it, (50, -50) 8, (41, -50) 9, (10, -50) 14. DRAG of 7 is 10 Q, of 8 20 Q.
        int[][] thrown = {{50, 41, 7}, {50, 50, 8}, {41, 50, 9}, {20, 50, 12}};
        for (int[] t : thrown) {
            DartHangar h = Check.hangar("turn 0;thin 1;lift 0 0 0 0 0 0 0 0 0;drag 0 0 0 0 0 0 0 10 20;pull " + t[1] + ";");
            int q = (t[0] * t[0] + t[1] * t[1]) / 1000;
            int drag = (t[2] == 7 ? 10 : 20) * q;
            check.due(t[0] - drag * ROUND[16 - t[2]] / 1000, h.at(0, 0, t[0], 0, 2, 2), "VX of ATTACK " + t[2]);
            // The same above it, by draughts; LIFT downwards is no more than that of -8.
            DartHangar up = Check.hangar("turn 0;thin 1;lift 0 0 0 0 0 0 0 3 5;drag 0 0 0 0 0 0 0 0 0;pull 10;");
            for (int k = 0; k < 3; k++) {
                up.draught(1, 1, k < 2 ? 20 : t[1] - 30);
            }
            int lift = -(t[2] == 7 ? 3 : 5) * q;
            check.due(t[0] - lift * ROUND[t[2]] / 1000, up.at(0, 0, t[0], 0, 2, 2), "VX of ATTACK " + -t[2]);
            check.due(t[1] + lift * ROUND[16 - t[2]] / 1000 - 10, up.at(0, 0, t[0], 0, 2, 3), "VY of ATTACK " + -t[2]);
        }
    }

    private static void q() {
        check.says(12, "Q: (VX VX + VY VY) by 1000.");
        DartHangar h = weightless("turn 0;thin 1;lift 0 0 0 0 0 0 0 0 0;drag 7 7 7 7 7 7 7 7 7;");
        check.due(31, h.at(0, 0, 31, 0, 1, 2), "VX of SPEED 31: Q 0");
        check.due(32 - 7, h.at(0, 0, 32, 0, 1, 2), "VX of SPEED 32: Q 1");
        check.due(44 - 7, h.at(0, 0, 44, 0, 1, 2), "VX of SPEED 44: Q 1");
        check.due(45 - 14, h.at(0, 0, 45, 0, 1, 2), "VX of SPEED 45: Q 2");
        // SPEED 45 at SLANT 8: (31, 31): 961 each are 1922: Q 1.
        check.due(31 - 4, h.at(0, 0, 45, 8, 1, 2), "VX of (31, 31)");
    }

    private static void lift() {
        check.says(12, "LIFT: lift of ATTACK without sign, times Q times S by (W times thin), with the sign of ATTACK (above 0 for 0, as in T).");
        // ATTACK 0 of WAY 1: LIFT 8 250 36 by (48 10) = 150.
        DartHangar level = weightless("lift 8 0 0 0 0 0 0 0 0;drag 0 0 0 0 0 0 0 0 0;turn 0;");
        dueState(level, new int[] {1, 0, 500, 0}, 1, 500, 2150, 500, 150);
        // With thin 7: 72000 by 336 is 214.2.
        DartHangar thin = weightless("lift 8 0 0 0 0 0 0 0 0;drag 0 0 0 0 0 0 0 0 0;turn 0;thin 7;");
        dueState(thin, new int[] {1, 0, 500, 0}, 1, 500, 2214, 500, 214);
        // The nose stands still, the PATH sinks below it: behind TICK 1 (100, -50): 100 882 + 50 471 is the most: 59, so ATTACK 5.
        // Q 12; LIFT 45 12 36 by 480 = 40; COS 882, SIN -471: VX 100 + 18840 by 1000, VY -50 + 35280 by 1000 - 50.
        DartHangar sinks = Check.hangar("turn 0;pull 50;drag 0 0 0 0 0 0 0 0 0;");
        dueState(sinks, new int[] {1, 0, 100, 0}, 1, 100, 1950, 100, -50, 0, 0);
        dueState(sinks, new int[] {1, 0, 100, 0}, 2, 218, 1885, 118, -65, 0, 0);
        // ATTACK below 0 pushes down: (100, 10) is PATH 1; LIFT -(10 10 36 by 480) = -7; VX 100 + 7 98 by 1000, VY 10 - 6.
        DartHangar rises = weightless("turn 0;drag 0 0 0 0 0 0 0 0 0;");
        rises.draught(1, 1, 10);
        dueState(rises, new int[] {1, 0, 100, 0}, 2, 200, 2014, 100, 4);
    }

    private static void drag() {
        check.says(12, "DRAG: drag of it likewise, without sign.");
        // ATTACK 0: 2 250 36 by 480 = 37; ATTACK -1 of (100, 10): 3 10 36 by 480 = 2; of (100, -10): the same 2.
        DartHangar h = weightless("turn 0;lift 0 0 0 0 0 0 0 0 0;drag 2 40 0 0 0 0 0 0 0;");
        dueState(h, new int[] {1, 0, 500, 0}, 1, 463, 2000, 463, 0);
        // (99, 10) behind TICK 1 of SPEED 100 (DRAG 2 10 36 by 480 = 1): Q 9, DRAG 40 9 36 by 480 = 27: VX - 26, VY - 2.
        h.draught(1, 1, 10);
        dueState(h, new int[] {1, 0, 100, 0}, 1, 99, 2010, 99, 10);
        dueState(h, new int[] {1, 0, 100, 0}, 2, 172, 2018, 73, 8);
        DartHangar down = weightless("turn 0;lift 0 0 0 0 0 0 0 0 0;drag 2 40 0 0 0 0 0 0 0;");
        down.draught(1, 1, -10);
        dueState(down, new int[] {1, 0, 100, 0}, 2, 172, 1982, 73, -8);
    }

    private static void spin() {
        check.says(12, "SPIN becomes SPIN + ((e Q - LEVER times LIFT) times turn) by 1000");
        DartHangar h = weightless("lift 8 0 0 0 0 0 0 0 0;drag 0 0 0 0 0 0 0 0 0;slow 0;");
        // WAY 1: LEVER 10, LIFT 150: (3 250 - 1500) 10 by 1000 = -7.5. WAY 0: LEVER 0: 3 250 10 by 1000 = 7.5.
        check.due(-7, h.at(1, 3, 500, 0, 1, 5), "SPIN by EARS 3 and LEVER 10");
        check.due(7, h.at(0, 3, 500, 0, 1, 5), "SPIN by EARS 3 and LEVER 0");
        check.due(0, h.at(1, 6, 500, 0, 1, 5), "SPIN by EARS 6 and LEVER 10: they are even");
        check.due(-15, h.at(1, 0, 500, 0, 1, 5), "SPIN by LEVER 10 alone");
        // It goes on from the SPIN that was: Q stays 250.
        DartHangar on = weightless("lift 0 0 0 0 0 0 0 0 0;drag 0 0 0 0 0 0 0 0 0;slow 0;");
        check.due(3 * 7, on.at(0, 3, 500, 0, 3, 5), "SPIN behind 3 TICKS");
        check.due(-3 * 7, on.at(0, -3, 500, 0, 3, 5), "SPIN behind 3 TICKS the other way");
        // turn 0 to 99.
        DartHangar none = weightless("lift 0 0 0 0 0 0 0 0 0;drag 0 0 0 0 0 0 0 0 0;slow 0;turn 0;");
        check.due(0, none.at(0, 9, 999, 0, 200, 5), "SPIN by turn 0");
        DartHangar most = weightless("lift 0 0 0 0 0 0 0 0 0;drag 0 0 0 0 0 0 0 0 0;slow 0;turn 99;");
        check.due(99 * 250 / 1000, most.at(0, 1, 500, 0, 1, 5), "SPIN by turn 99");
    }

    private static void slow() {
        check.says(12, "of that SPIN times slow by 10 goes");
        // 3 250 10 by 1000 = 7; of 7 goes 7 slow by 10.
        int[] left = {7, 7, 6, 5, 5, 4, 3, 3, 2, 1};
        for (int slow = 0; slow <= 9; slow++) {
            DartHangar h = weightless("lift 0 0 0 0 0 0 0 0 0;drag 0 0 0 0 0 0 0 0 0;slow " + slow + ";");
            check.due(left[slow], h.at(0, 3, 500, 0, 1, 5), "SPIN with slow " + slow);
            check.due(-left[slow], h.at(0, -3, 500, 0, 1, 5), "a SPIN below 0 with slow " + slow);
        }
        // The SPIN that was counts too: 5 + 7 = 12, less 3.
        DartHangar h = weightless("lift 0 0 0 0 0 0 0 0 0;drag 0 0 0 0 0 0 0 0 0;");
        check.due(5, h.at(0, 3, 500, 0, 1, 5), "SPIN behind one TICK");
        check.due(9, h.at(0, 3, 500, 0, 2, 5), "SPIN behind two TICKS");
    }

    private static void spinKept() {
        check.says(12, "kept within -200 .. 200.");
        // EARS 9, Q 250: 2250 turn by 1000.
        int[][] turned = {{88, 198}, {89, 200}, {90, 200}, {99, 200}};
        for (int[] t : turned) {
            DartHangar h = weightless("lift 0 0 0 0 0 0 0 0 0;drag 0 0 0 0 0 0 0 0 0;slow 0;turn " + t[0] + ";");
            check.due(t[1], h.at(0, 9, 500, 0, 1, 5), "SPIN by turn " + t[0]);
            check.due(-t[1], h.at(0, -9, 500, 0, 1, 5), "SPIN the other way by turn " + t[0]);
            check.due(200, h.at(0, 9, 500, 0, 9, 5), "SPIN behind 9 TICKS");
        }
        // What slow takes goes ahead of it: 222 less 66.
        DartHangar slow = weightless("lift 0 0 0 0 0 0 0 0 0;drag 0 0 0 0 0 0 0 0 0;slow 3;turn 99;");
        check.due(156, slow.at(0, 9, 500, 0, 1, 5), "SPIN with slow 3");
    }

    private static void nose() {
        check.says(12, "NOSE becomes NOSE + SPIN, within 0 .. 1023 by rounds of 1024.");
        String still = "lift 0 0 0 0 0 0 0 0 0;drag 0 0 0 0 0 0 0 0 0;slow 0;turn ";
        // SLANT -1: NOSE 1008; (497, -49): Q 249: SPIN 249 turn by 1000.
        int[][] up = {{61, 15, 1023}, {65, 16, 0}, {69, 17, 1}};
        for (int[] t : up) {
            DartHangar h = weightless(still + t[0] + ";");
            check.due(t[1], h.at(0, 1, 500, -1, 1, 5), "SPIN by turn " + t[0]);
            check.due(t[2], h.at(0, 1, 500, -1, 1, 4), "NOSE by turn " + t[0]);
        }
        // SLANT 0: NOSE 0; Q 250: SPIN -250 turn by 1000.
        int[][] down = {{3, 0, 0}, {4, -1, 1023}, {8, -2, 1022}};
        for (int[] t : down) {
            DartHangar h = weightless(still + t[0] + ";");
            check.due(t[1], h.at(0, -1, 500, 0, 1, 5), "SPIN by turn " + t[0]);
            check.due(t[2], h.at(0, -1, 500, 0, 1, 4), "NOSE by turn " + t[0]);
        }
        // Round and round: 200 a TICK.
        DartHangar h = weightless(still + "99;");
        for (int t = 0; t <= 20; t++) {
            check.due(200 * t % 1024, h.at(0, 9, 999, 0, t, 4), "NOSE behind " + t + " TICKS");
            check.due((1024 * 4 - 200 * t) % 1024, h.at(0, -9, 999, 0, t, 4), "NOSE the other way behind " + t + " TICKS");
        }
    }

    private static void velocity() {
        check.says(12, "VX becomes VX + (- DRAG COS - LIFT SIN of PATH) by 1000, VY becomes VY + (- DRAG SIN + LIFT COS of PATH) by 1000, less pull");
        DartHangar h = Check.hangar("");
        // Q 250, DRAG 2 250 36 by 480 = 37, SPIN 3 250 10 by 1000 = 7, less 2; then Q 214, DRAG 32, SPIN 5 + 6 = 11, less 3.
        dueState(h, new int[] {1, 3, 500, 0}, 1, 463, 1990, 463, -10, 5, 5);
        dueState(h, new int[] {1, 3, 500, 0}, 2, 894, 1970, 431, -20, 13, 8);
        // LEVER 0 and EARS below 0: SPIN -22, less -6; NOSE goes round. DRAG 2 250 48 by 480 = 50.
        dueState(h, new int[] {0, -9, 500, 0}, 1, 450, 1990, 450, -10, 1008, -16);
        // DRAG and LIFT at a SLANT: 8: (353, 353): Q 249; LIFT 8 249 by 10 = 199, DRAG 4 249 by 10 = 99.
        // VX 353 + (- 99 707 - 199 707) by 1000 = -210, VY 353 + (- 99 707 + 199 707) by 1000 = + 70, less 10.
        DartHangar both = Check.hangar("turn 0;lift 8 8 8 8 8 8 8 8 8;drag 4 4 4 4 4 4 4 4 4;");
        dueState(both, new int[] {0, 0, 500, 8}, 1, 143, 2413, 143, 413);
        // -8: (353, -353): VX 353 + (- 99 707 + 199 707) by 1000 = + 70, VY -353 + (99 707 + 199 707) by 1000 = + 210, less 10.
        dueState(both, new int[] {0, 0, 500, -8}, 1, 423, 1847, 423, -153);
        // One quotient for both, not one each: SLANT 1 of SPEED 100: (99, 9): Q 9; LIFT 7, DRAG 3: VX 99 + (-2985 - 686) by 1000.
        dueState(both, new int[] {0, 0, 100, 1}, 1, 96, 2005, 96, 9 + 6 - 10);
    }

    private static void velocityKept() {
        check.says(12, "both kept within -2000 .. 2000.");
        DartHangar h = Check.hangar("turn 0;thin 1;lift 0 0 0 0 0 0 0 0 0;drag 99 99 99 99 99 99 99 99 99;");
        // SPEED 999: Q 998, DRAG 98802: thrown back, and in TICK 2 forth again.
        dueState(h, new int[] {0, 0, 999, 0}, 1, -2000, 1990, -2000, -10);
        dueState(h, new int[] {0, 0, 999, 0}, 2, 0, 1970, 2000, -20);
        // Straight up and down: pull is taken first, then it is kept.
        dueState(h, new int[] {0, 0, 999, -16}, 1, 0, 4000, 0, 2000);
        dueState(h, new int[] {0, 0, 999, 16}, 1, 0, 0, 0, -2000);
        // Just within and just beyond: SPEED 200, Q 40: 200 - 40 n; n 55: -2000, n 56: -2040, n 54: -1960.
        int[][] drags = {{54, -1960}, {55, -2000}, {56, -2000}};
        for (int[] d : drags) {
            DartHangar at = Check.hangar("turn 0;thin 1;lift 0 0 0 0 0 0 0 0 0;drag " + d[0] + " 0 0 0 0 0 0 0 0;");
            check.due(d[1], at.at(0, 0, 200, 0, 1, 2), "VX by a drag of " + d[0]);
        }
    }

    private static void moves() {
        check.says(12, "X grows by VX, Y by VY");
        DartHangar h = Check.hangar(Check.STONE);
        // By what they have become: VY is -10 in TICK 1 already.
        dueState(h, new int[] {0, 0, 100, 0}, 1, 100, 1990, 100, -10);
        dueState(h, new int[] {0, 0, 100, 0}, 2, 200, 1970, 100, -20);
        dueState(h, new int[] {0, 0, 100, 16}, 1, 0, 2090, 0, 90);
        // X may be below 0.
        DartHangar back = Check.hangar("turn 0;thin 1;lift 0 0 0 0 0 0 0 0 0;drag 55 0 0 0 0 0 0 0 0;");
        dueState(back, new int[] {0, 0, 200, 0}, 1, -2000, 1990, -2000, -10);
    }

    private static void roof() {
        check.says(12, "above the roof (100 times it) Y is at it, and VY becomes - VY by 2.");
        DartHangar h = Check.hangar(Check.STONE + "roof 21;");
        dueState(h, new int[] {0, 0, 100, 16}, 1, 0, 2090, 0, 90);
        dueState(h, new int[] {0, 0, 100, 16}, 2, 0, 2100, 0, -40);
        dueState(h, new int[] {0, 0, 100, 16}, 3, 0, 2050, 0, -50);
        // At the roof is not above it; one more is; half of an odd number is cut.
        DartHangar even = Check.hangar(Check.STONE + "roof 21;pull 1;");
        dueState(even, new int[] {0, 0, 101, 16}, 1, 0, 2100, 0, 100);
        dueState(even, new int[] {0, 0, 102, 16}, 1, 0, 2100, 0, -50);
        dueState(even, new int[] {0, 0, 103, 16}, 1, 0, 2100, 0, -51);
        // The least and the greatest roof. One below the throw takes hold in the first TICK, even of one that falls.
        DartHangar low = Check.hangar(Check.STONE + "roof 10;");
        dueState(low, new int[] {0, 0, 100, 0}, 1, 100, 1000, 100, 5);
        dueState(low, new int[] {0, 0, 100, 0}, 2, 200, 995, 100, -5);
        DartHangar top = Check.hangar(Check.STONE + "roof 99;pull 1;");
        check.due(9900, top.fly(0, 0, 999, 16, 2), "HIGH under the greatest roof");
        DartHangar none = Check.hangar(Check.STONE + "pull 1;");
        check.due(true, none.fly(0, 0, 999, 16, 2) > 99900, "without a roof it goes higher");
    }

    // ---- promise 12

    private static void behindTicks() {
        check.says(12, "A FLIGHT behind so many TICKS (0 to 200; behind its end, if it is ended by then)");
        DartHangar h = Check.hangar(Check.STONE);
        dueState(h, new int[] {0, 0, 100, 0}, 0, 0, 2000, 100, 0, 0, 0);
        dueState(h, new int[] {0, 0, 100, 0}, 19, 1900, 100, 100, -190, 0, 0);
        // It LANDED in TICK 20.
        for (int ticks : new int[] {20, 21, 100, 199, 200}) {
            dueState(h, new int[] {0, 0, 100, 0}, ticks, 2000, -100, 100, -200, 0, 0);
        }
        // STOPPED in TICK 5.
        h.crate(450, 9999);
        dueState(h, new int[] {0, 0, 100, 0}, 4, 400, 1900, 100, -40, 0, 0);
        for (int ticks : new int[] {5, 6, 200}) {
            dueState(h, new int[] {0, 0, 100, 0}, ticks, 450, 1850, 100, -50, 0, 0);
        }
        h.still();
        h.draught(1, 200, 10);
        dueState(h, new int[] {0, 0, 100, 0}, 199, 19900, 2000, 100, 0, 0, 0);
        dueState(h, new int[] {0, 0, 100, 0}, 200, 20000, 2000, 100, 0, 0, 0);
        check.refused(Check.ARGUMENT, "at(.. 201, 0)", () -> h.at(0, 0, 100, 0, 201, 0));
        check.refused(Check.ARGUMENT, "at(.. -1, 0)", () -> h.at(0, 0, 100, 0, -1, 0));
        for (int wild : Check.WILD) {
            check.refused(Check.ARGUMENT, "at(.. " + wild + ", 0)", () -> h.at(0, 0, 100, 0, wild, 0));
        }
    }

    private static void whatOfATick() {
        check.says(12, "what 0: X, 1: Y, 2: VX, 3: VY, 4: NOSE, 5: SPIN.");
        DartHangar h = Check.hangar("");
        dueState(h, new int[] {1, 3, 500, 0}, 2, 894, 1970, 431, -20, 13, 8);
        check.refused(Check.ARGUMENT, "at(.. 0, 6)", () -> h.at(0, 0, 100, 0, 0, 6));
        check.refused(Check.ARGUMENT, "at(.. 0, -1)", () -> h.at(0, 0, 100, 0, 0, -1));
        for (int wild : Check.WILD) {
            check.refused(Check.ARGUMENT, "at(.. 0, " + wild + ")", () -> h.at(0, 0, 100, 0, 0, wild));
        }
    }
}

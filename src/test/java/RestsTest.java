/** Promises 18 and 19: rests, and why there is none. */
public final class RestsTest {
    private static final Check check = new Check();

    public static void main(String[] args) {
        restTerms();
        turning();
        howManyRests();
        restByNumber();
        noSuchRest();
        why();
        whyTerms();
        check.end();
    }

    /** WAY 1 has LEVER 10, S 36, W 48: with thin 10, T(k) is 480 e - 360 lift of k. */
    private static void dueRests(String law, int ears, int... attacks) {
        DartHangar h = Check.hangar(law);
        check.due(attacks.length, h.rest(1, ears, -1), "RESTS by '" + law + "', EARS " + ears);
        for (int i = 0; i < attacks.length; i++) {
            check.due(attacks[i] + 100, h.rest(1, ears, i), "REST " + i + " by '" + law + "', EARS " + ears);
        }
        check.due(-1, h.rest(1, ears, attacks.length), "a REST too many by '" + law + "', EARS " + ears);
    }

    private static void restTerms() {
        check.says(18, "REST: an ATTACK k of -8 to 8 with T(k) 0, or T(k) above 0 and T(k + 1) below 0");
        dueRests("", 0, 0);
        // EARS 9: 4320 is 360 12: above 0 at 1 (10), below at 2 (20); at 8 (10) it is above 0 again, and there is no 9.
        dueRests("", 9, 1);
        // EARS -9: T(-2) is 20 360 - 4320 above 0, T(-1) below.
        dueRests("", -9, -2);
        // 0 at the very ends.
        dueRests("lift 0 0 0 0 0 0 0 0 12;", 9, 8);
        dueRests("lift 0 0 0 0 0 0 0 0 12;", -9, -8);
        // Above 0 at 8 is no REST; above 0 at 7 and below at 8 is one, and so at -8 and -7.
        dueRests("lift 0 0 0 0 0 0 0 0 11;", 9);
        dueRests("lift 0 0 0 0 0 0 0 0 13;", 9, 7);
        dueRests("lift 0 0 0 0 0 0 0 0 13;", -9, -8);
        // From above 0 to 0 is one REST, at 0; from 0 to below 0 too.
        dueRests("lift 0 0 12 20 20 20 20 20 20;", 9, 2);
        dueRests("lift 0 0 0 12 0 0 0 0 0;", 9, 3);
        // From below 0 to above 0 is none.
        dueRests("lift 20 20 0 0 0 0 0 0 0;", 9, -1);
        // Several: 0 at 1, 3 and 8; from above 0 to below 0 at 5.
        dueRests("lift 0 12 0 12 20 0 20 4 12;", 9, 1, 3, 5, 8);
        // T of 1 and of -1: 4 by 3, nose 1: S 9, LEVER 5; W 12 and 1 by DAMP 9: T(k) is 13 e - 45 lift: 91 - 90 = 1 at lift 2.
        DartHangar near = Check.folded(4, 3, "nose 1;");
        Check.law(near, "thin 1;lift 0 0 2 3 3 3 3 3 3;");
        near.damp(9);
        check.due(1, near.rest(0, 7, -1), "RESTS from a T of 1");
        check.due(102, near.rest(0, 7, 0), "that REST");
        check.due(1, near.rest(0, -7, -1), "RESTS to a T of -1");
        check.due(97, near.rest(0, -7, 0), "that REST: 135 - 91 at -3, then 90 - 91");
    }

    private static void turning() {
        check.says(18, "T(k): e W thin (W with what DAMP adds) less LEVER S times lift of k (with its sign).");
        // EARS 3: 3 48 thin is 360 lift: thin 5: 720, lift 2; thin 10: 1440, lift 4; thin 99: 14256 = 360 39.6.
        dueRests("lift 0 1 2 3 4 5 6 7 8;thin 5;", 3, 2);
        dueRests("lift 0 1 2 3 4 5 6 7 8;thin 10;", 3, 4);
        dueRests("lift 0 1 2 3 4 5 6 7 8;thin 10;", -3, -4);
        dueRests("lift 0 1 2 3 39 40 50 60 70;thin 99;", 3, 4);
        // lift of 0 counts above 0: -1 is above 0, 0 below.
        dueRests("lift 2 2 2 2 2 2 2 2 2;", 0, -1);
        dueRests("lift 4 0 4 4 4 4 4 4 4;", 3, 0, 2, 3, 4, 5, 6, 7, 8);
        // With DAMP 50: 3 72 10 = 2160 = 360 6.
        DartHangar h = Check.hangar("lift 0 1 2 3 4 5 6 7 8;");
        h.damp(50);
        check.due(106, h.rest(1, 3, 0), "a REST with DAMP 50");
        // A LEVER below 0 turns it round: corner 4, side 2 on 4 by 4: LEVER -8, S 7, W 16; EARS -7: -7 16 thin + 56 lift.
        DartHangar back = Check.folded(4, 4, "corner 4;side 2;");
        Check.law(back, "lift 0 1 2 3 4 5 6 7 8;thin 3;");
        check.due(1, back.rest(0, -7, -1), "RESTS of a LEVER below 0");
        check.due(106, back.rest(0, -7, 0), "that REST: 336 by 56");
    }

    private static void howManyRests() {
        check.says(18, "How many RESTS (i NONE)");
        DartHangar h = Check.hangar("");
        check.due(17, h.rest(0, 0, -1), "LEVER 0 and EARS 0: all");
        check.due(0, h.rest(0, 1, -1), "LEVER 0 and EARS 1: none");
        check.due(0, h.rest(0, -1, -1), "LEVER 0 and EARS -1: none");
        check.due(1, h.rest(1, 0, -1), "LEVER 10 and EARS 0: one");
    }

    private static void restByNumber() {
        check.says(18, "or the i-th, by growing ATTACK, and 100");
        DartHangar h = Check.hangar("");
        for (int i = 0; i < 17; i++) {
            check.due(92 + i, h.rest(0, 0, i), "REST " + i + " of all");
        }
    }

    private static void noSuchRest() {
        check.says(18, "NONE: not so many.");
        DartHangar h = Check.hangar("");
        check.due(-1, h.rest(0, 0, 17), "an 18th REST");
        check.due(-1, h.rest(1, 0, 1), "a second REST of one");
        check.due(-1, h.rest(0, 1, 0), "a REST of none");
        check.due(-1, h.rest(0, 0, -2), "rest(0, 0, -2)");
        for (int wild : Check.WILD) {
            check.due(-1, h.rest(0, 0, wild), "rest(0, 0, " + wild + ")");
        }
        check.refused(Check.ARGUMENT, "rest with EARS 10", () -> h.rest(1, 10, 0));
        check.refused(Check.ARGUMENT, "rest with EARS -10", () -> h.rest(1, -10, -1));
    }

    private static void why() {
        check.says(19, "WHY.");
        DartHangar h = Check.hangar("");
        check.due(0, h.why(1, 0), "a REST");
        check.due(2, h.why(0, 1), "LEVER 0 and EARS 1 stall");
        check.due(1, h.why(0, -1), "LEVER 0 and EARS -1 nose down");
        check.refused(Check.ARGUMENT, "why with EARS -10", () -> h.why(1, -10));
        check.refused(Check.ARGUMENT, "why with EARS 10", () -> h.why(1, 10));
    }

    private static void whyTerms() {
        check.says(19, "WHY: 0 there is a REST, 1 it noses down (all T below 0), 2 it stalls (all T above 0), 3 else.");
        check.due(0, Check.hangar("lift 0 0 0 0 0 0 0 0 12;").why(1, 9), "a REST at 8 alone");
        check.due(0, Check.hangar("lift 0 0 0 0 0 0 0 0 12;").why(1, -9), "a REST at -8 alone");
        check.due(2, Check.hangar("lift 0 0 0 0 0 0 0 0 11;").why(1, 9), "above 0 at 8 too");
        check.due(1, Check.hangar("lift 0 0 0 0 0 0 0 0 11;").why(1, -9), "below 0 at -8 too");
        check.due(0, Check.hangar("lift 2 2 2 2 2 2 2 2 2;").why(1, 0), "a REST at -1");
        // A LEVER below 0: below 0 first, then above 0: no REST, and neither all above nor all below.
        DartHangar back = Check.folded(4, 4, "corner 4;side 2;");
        Check.law(back, "lift 2 2 2 2 2 2 2 2 2;");
        check.due(0, back.rest(0, 0, -1), "RESTS of a LEVER below 0");
        check.due(3, back.why(0, 0), "below 0, then above 0");
        // T(k) is 16 e + 56 lift with thin 1: only -8 below 0, only 8 above 0.
        Check.law(back, "thin 1;lift 0 0 0 0 0 0 0 0 1;");
        check.due(3, back.why(0, 1), "below 0 at -8 alone");
        check.due(3, back.why(0, -1), "above 0 at 8 alone");
        check.due(2, back.why(0, 4), "above 0 at -8 too: 64 - 56");
        check.due(1, back.why(0, -4), "below 0 at 8 too: 56 - 64");
    }
}

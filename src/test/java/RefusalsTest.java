import java.util.ArrayList;
import java.util.List;

/** What holds for all calls: which throw comes of several, and that a call that throws changes nothing. */
public final class RefusalsTest {
    private static final Check check = new Check();

    private interface On {
        void make(DartHangar h);
    }

    private static final class Refusal {
        final int promise;
        final Class<? extends RuntimeException> kind;
        final String text;
        final On call;

        Refusal(int promise, Class<? extends RuntimeException> kind, String text, On call) {
            this.promise = promise;
            this.kind = kind;
            this.text = text;
            this.call = call;
        }
    }

    private static final List<Refusal> refusals = new ArrayList<>();

    public static void main(String[] args) {
        sheetAndTexts();
        flights();
        hands();
        contests();
        traysAndImages();
        toldFirst();
        changesNothing();
        noSuchWayAnywhere();
        noMakeAnywhere();
        noSuchHandAnywhere();
        wrongEarsSpeedSlantAnywhere();
        fullListsChangeNothing();
        check.end();
    }

    /**
     * WAY 0 nose 1, 1 nose 2 and corner 3, 2 without a MAKE; HAND 0 with two THROWS, 1 with none, 2 with four; TRAY 0 holds a
     * THROW, 1 ends within one, 2 has 0s, 3 is MISSING; IMAGE 0 was made; the tape holds a LAW, and the latest reading had a FAULT.
     */
    private static DartHangar full() {
        DartHangar h = new DartHangar();
        Check.way(h, "nose 1;");
        Check.way(h, "nose 2;corner 3;");
        Check.way(h, "nose 5;");
        h.image(0);
        h.sheet(9, 7);
        Check.law(h, "pull 7;turn 8;roof 44;");
        h.hand();
        h.toss(0, 150, 2, 3);
        h.toss(0, 80, 9, 1);
        h.hand();
        h.hand();
        for (int i = 1; i <= 4; i++) {
            h.toss(2, 100 * i, i, i);
        }
        h.tray(0, 2, 3);
        h.write(0, 0, 120);
        h.write(0, 1, -1);
        h.write(0, 2, 5);
        h.tray(1, 1, 4);
        h.tray(2, 0, 3);
        h.draught(3, 30, 4);
        h.crate(5000, 300);
        h.damp(10);
        h.enter(0, 1, 0);
        h.enter(1, 2, 2);
        Check.way(h, "nose 0;");
        Check.feed(h, "thin 9;pull 4;");
        return h;
    }

    /** Everything that later calls would show of an object, and what they would do to it. */
    private static List<String> trace(DartHangar h) {
        List<String> all = new ArrayList<>();
        for (int what = -1; what <= 14; what++) {
            all.add("count " + h.count(what));
        }
        all.add("fault " + h.fault(0) + " " + h.fault(1));
        for (int way = 0; way < h.count(0); way++) {
            int w = way;
            all.add("breaks " + h.breaks(way));
            for (int i = -1; i < 3; i++) {
                all.add("fold " + h.fold(way, i));
            }
            for (int hand = 0; hand < h.count(1); hand++) {
                int k = hand;
                all.add("reach " + outcome(() -> h.reach(w, 2, k, false)) + " " + outcome(() -> h.reach(w, 2, k, true)));
            }
        }
        for (int entry = 0; entry < h.count(12); entry++) {
            all.add("wins " + h.wins(entry));
        }
        all.add("toss " + h.toss(0, 10, 0, 1) + " " + h.toss(1, 10, 0, 1) + " " + h.toss(2, 10, 0, 1));
        for (int tray = 0; tray < 4; tray++) {
            int t = tray;
            all.add("take " + outcome(() -> h.take(t, 1)) + " reach " + h.reach(0, 0, 1, true));
        }
        for (int tray = 0; tray < 4; tray++) {
            int t = tray;
            for (int place = 0; place <= 4; place++) {
                int p = place;
                all.add("write " + outcome(() -> h.write(t, p, 1L << 40 | 40000 + p)));
            }
        }
        all.add("law " + h.law(h.count(4)) + " thin " + h.count(6) + " pull " + h.count(5) + " fault " + h.fault(0));
        all.add("way " + h.way(0));
        for (int i = 0; i < 3; i++) {
            int k = i;
            all.add("restore " + Check.thrownBy(() -> h.restore(k)));
            for (int what = 0; what <= 13; what++) {
                all.add("count " + h.count(what));
            }
        }
        return all;
    }

    private interface Answer {
        long of();
    }

    private static String outcome(Answer call) {
        try {
            return Long.toString(call.of());
        } catch (RuntimeException e) {
            return e.getClass().getSimpleName();
        }
    }

    private static void no(int promise, String text, On call) {
        refusals.add(new Refusal(promise, Check.NO_ELEMENT, text, call));
    }

    private static void state(int promise, String text, On call) {
        refusals.add(new Refusal(promise, Check.STATE, text, call));
    }

    private static void argument(int promise, String text, On call) {
        refusals.add(new Refusal(promise, Check.ARGUMENT, text, call));
    }

    private static void bounds(int promise, String text, On call) {
        refusals.add(new Refusal(promise, Check.BOUNDS, text, call));
    }

    // Each call with all that can be wrong of it, then without what was told first, and so on.

    private static void sheetAndTexts() {
        argument(2, "sheet(3, 2)", h -> h.sheet(3, 2));
        argument(2, "sheet(24, 13)", h -> h.sheet(24, 13));
        argument(2, "sheet(3, 12)", h -> h.sheet(3, 12));
        argument(4, "way(21)", h -> h.way(21));
        argument(4, "way(-1)", h -> h.way(-1));
        argument(5, "law(21)", h -> h.law(21));
        argument(5, "law(-1)", h -> h.law(-1));
        no(7, "fold(3, -1)", h -> h.fold(3, -1));
        no(8, "breaks(3)", h -> h.breaks(3));
        no(9, "make(3, 7)", h -> h.make(3, 7));
        state(9, "make(2, 7)", h -> h.make(2, 7));
        argument(9, "make(0, 7)", h -> h.make(0, 7));
        no(10, "layers(3, -1, -1)", h -> h.layers(3, -1, -1));
        state(10, "layers(2, -1, -1)", h -> h.layers(2, -1, -1));
    }

    private static void flights() {
        no(11, "fly(3, 10, 9, 17, 6)", h -> h.fly(3, 10, 9, 17, 6));
        state(11, "fly(2, 10, 9, 17, 6)", h -> h.fly(2, 10, 9, 17, 6));
        argument(11, "fly(0, 10, 9, 17, 6)", h -> h.fly(0, 10, 9, 17, 6));
        no(12, "at(3, 10, 9, 17, 201, 6)", h -> h.at(3, 10, 9, 17, 201, 6));
        state(12, "at(2, 10, 9, 17, 201, 6)", h -> h.at(2, 10, 9, 17, 201, 6));
        argument(12, "at(0, 10, 9, 17, 201, 6)", h -> h.at(0, 10, 9, 17, 201, 6));
        argument(13, "draught(5, 4, 1)", h -> h.draught(5, 4, 1));
        argument(13, "draught(1, 2, 21)", h -> h.draught(1, 2, 21));
        argument(14, "crate(0, 5)", h -> h.crate(0, 5));
        argument(14, "crate(5, 10000)", h -> h.crate(5, 10000));
        argument(16, "damp(51)", h -> h.damp(51));
        no(17, "slant(3, 10, 9, true)", h -> h.slant(3, 10, 9, true));
        state(17, "slant(2, 10, 9, true)", h -> h.slant(2, 10, 9, true));
        argument(17, "slant(0, 10, 9, true)", h -> h.slant(0, 10, 9, true));
        no(18, "rest(3, 10, 0)", h -> h.rest(3, 10, 0));
        state(18, "rest(2, 10, 0)", h -> h.rest(2, 10, 0));
        argument(18, "rest(0, 10, 0)", h -> h.rest(0, 10, 0));
        no(19, "why(3, 10)", h -> h.why(3, 10));
        state(19, "why(2, 10)", h -> h.why(2, 10));
        argument(19, "why(0, 10)", h -> h.why(0, 10));
    }

    private static void hands() {
        no(21, "toss(3, 9, 17, 0)", h -> h.toss(3, 9, 17, 0));
        argument(21, "toss(0, 9, 17, 0)", h -> h.toss(0, 9, 17, 0));
        argument(21, "toss(1, 10, 0, 10)", h -> h.toss(1, 10, 0, 10));
        no(22, "reach(3, 10, 3, true)", h -> h.reach(3, 10, 3, true));
        no(22, "reach(2, 10, 3, true)", h -> h.reach(2, 10, 3, true));
        state(22, "reach(2, 10, 0, true)", h -> h.reach(2, 10, 0, true));
        argument(22, "reach(0, 10, 0, true)", h -> h.reach(0, 10, 0, true));
        argument(22, "reach(0, 10, 1, true)", h -> h.reach(0, 10, 1, true));
        no(23, "ears(3, 3, true)", h -> h.ears(3, 3, true));
        no(23, "ears(2, 3, true)", h -> h.ears(2, 3, true));
        state(23, "ears(2, 0, true)", h -> h.ears(2, 0, true));
        no(24, "best(3, true)", h -> h.best(3, true));
        no(25, "change(3, 10, 3, true, 3)", h -> h.change(3, 10, 3, true, 3));
        no(25, "change(2, 10, 3, true, 3)", h -> h.change(2, 10, 3, true, 3));
        state(25, "change(2, 10, 0, true, 3)", h -> h.change(2, 10, 0, true, 3));
        argument(25, "change(0, 10, 0, true, 3)", h -> h.change(0, 10, 0, true, 3));
        no(26, "mend(3, 10, 3, true)", h -> h.mend(3, 10, 3, true));
        no(26, "mend(2, 10, 3, true)", h -> h.mend(2, 10, 3, true));
        state(26, "mend(2, 10, 0, true)", h -> h.mend(2, 10, 0, true));
        argument(26, "mend(0, 10, 0, true)", h -> h.mend(0, 10, 0, true));
    }

    private static void contests() {
        no(27, "hoop(3, 10, 9, 17, 0, 2, 1)", h -> h.hoop(3, 10, 9, 17, 0, 2, 1));
        state(27, "hoop(2, 10, 9, 17, 0, 2, 1)", h -> h.hoop(2, 10, 9, 17, 0, 2, 1));
        argument(27, "hoop(0, 10, 9, 17, 0, 2, 1)", h -> h.hoop(0, 10, 9, 17, 0, 2, 1));
        no(28, "odds(3, 10, 3, 0, 0, 2, 1)", h -> h.odds(3, 10, 3, 0, 0, 2, 1));
        no(28, "odds(2, 10, 3, 0, 0, 2, 1)", h -> h.odds(2, 10, 3, 0, 0, 2, 1));
        state(28, "odds(2, 10, 0, 0, 0, 2, 1)", h -> h.odds(2, 10, 0, 0, 0, 2, 1));
        argument(28, "odds(0, 10, 0, 0, 0, 2, 1)", h -> h.odds(0, 10, 0, 0, 0, 2, 1));
        no(29, "enter(3, 10, 0)", h -> h.enter(3, 10, 0));
        no(29, "enter(0, 10, 3)", h -> h.enter(0, 10, 3));
        argument(29, "enter(0, 10, 0)", h -> h.enter(0, 10, 0));
        no(30, "wins(2)", h -> h.wins(2));
        no(31, "hours(3, 10, 3, true, 0)", h -> h.hours(3, 10, 3, true, 0));
        no(31, "hours(2, 10, 3, true, 0)", h -> h.hours(2, 10, 3, true, 0));
        state(31, "hours(2, 10, 0, true, 0)", h -> h.hours(2, 10, 0, true, 0));
        argument(31, "hours(0, 10, 0, true, 0)", h -> h.hours(0, 10, 0, true, 0));
        no(32, "seen(3, 9, 17, 0, 0)", h -> h.seen(3, 9, 17, 0, 0));
        state(32, "seen(2, 9, 17, 0, 0)", h -> h.seen(2, 9, 17, 0, 0));
        argument(32, "seen(0, 9, 17, 0, 0)", h -> h.seen(0, 9, 17, 0, 0));
    }

    private static void traysAndImages() {
        no(34, "tray(4, 4, 13)", h -> h.tray(4, 4, 13));
        argument(34, "tray(0, 4, 13)", h -> h.tray(0, 4, 13));
        argument(34, "tray(0, 1, 13)", h -> h.tray(0, 1, 13));
        argument(34, "tray(3, 4, 1)", h -> h.tray(3, 4, 1));
        no(35, "write(4, 12, 1)", h -> h.write(4, 12, 1));
        state(35, "write(3, 12, 1)", h -> h.write(3, 12, 1));
        bounds(35, "write(0, 3, 1)", h -> h.write(0, 3, 1));
        bounds(35, "write(0, -1, 1)", h -> h.write(0, -1, 1));
        no(36, "take(4, 3)", h -> h.take(4, 3));
        no(36, "take(3, 3)", h -> h.take(3, 3));
        state(36, "take(3, 0)", h -> h.take(3, 0));
        bounds(36, "take(1, 0), which has wrong numbers too", h -> h.take(1, 0));
        argument(36, "take(2, 0)", h -> h.take(2, 0));
        no(37, "image(3)", h -> h.image(3));
        no(38, "restore(3)", h -> h.restore(3));
        state(38, "restore(1)", h -> h.restore(1));
    }

    private static void toldFirst() {
        check.says(11, "Of several throws of a call that one comes that is told first.");
        for (Refusal r : refusals) {
            DartHangar h = full();
            check.refused(r.kind, "promise " + r.promise + ", " + r.text, () -> r.call.make(h));
        }
    }

    private static void changesNothing() {
        check.says(11, "A call that throws changes nothing.");
        List<String> untouched = trace(full());
        for (Refusal r : refusals) {
            DartHangar h = full();
            Check.thrownBy(() -> r.call.make(h));
            dueTrace(untouched, trace(h), "promise " + r.promise + ", behind " + r.text);
        }
        // All of them, one behind the other.
        DartHangar h = full();
        for (Refusal r : refusals) {
            Check.thrownBy(() -> r.call.make(h));
        }
        dueTrace(untouched, trace(h), "behind all of them");
    }

    private static void dueTrace(List<String> want, List<String> got, String what) {
        check.due(want.size(), got.size(), what + ": how much is told");
        for (int i = 0; i < want.size() && i < got.size(); i++) {
            if (!want.get(i).equals(got.get(i))) {
                check.due(true, false, what + ": '" + got.get(i) + "' in place of '" + want.get(i) + "'; is it as before");
                return;
            }
        }
        check.due(true, true, what);
    }

    /** Every call that is told a WAY, all else being fine. */
    private static List<On> callsOfAWay(int way) {
        return List.of(h -> h.fold(way, -1), h -> h.breaks(way), h -> h.make(way, 0), h -> h.layers(way, 0, 0), h -> h.fly(way, 0, 100, 0, 0),
            h -> h.at(way, 0, 100, 0, 0, 0), h -> h.slant(way, 0, 100, true), h -> h.rest(way, 0, -1), h -> h.why(way, 0),
            h -> h.reach(way, 0, 0, true), h -> h.ears(way, 0, true), h -> h.change(way, 0, 0, true, 0), h -> h.mend(way, 0, 0, true),
            h -> h.hoop(way, 0, 100, 0, 1, 0, 1), h -> h.odds(way, 0, 0, 1, 1, 0, 1), h -> h.enter(way, 0, 0),
            h -> h.hours(way, 0, 0, true, 0), h -> h.seen(way, 100, 0, 0, 0));
    }

    private static final String[] OF_A_WAY = {"fold", "breaks", "make", "layers", "fly", "at", "slant", "rest", "why", "reach", "ears",
        "change", "mend", "hoop", "odds", "enter", "hours", "seen"};

    private static void noSuchWayAnywhere() {
        check.says(7, "NoSuchElementException: no such WAY (as everywhere).");
        int[] ways = {-1, 3, 5, 6, Integer.MIN_VALUE, Integer.MAX_VALUE};
        for (int way : ways) {
            List<On> calls = callsOfAWay(way);
            for (int i = 0; i < calls.size(); i++) {
                DartHangar h = full();
                On call = calls.get(i);
                check.refused(Check.NO_ELEMENT, OF_A_WAY[i] + " of WAY " + way, () -> call.make(h));
            }
        }
        for (On call : callsOfAWay(0)) {
            check.due(true, Check.thrownBy(() -> call.make(full())).equals("nothing"), "a call of WAY 0 is fine");
        }
    }

    private static void noMakeAnywhere() {
        check.says(9, "IllegalStateException: there is none (as everywhere)");
        List<On> calls = callsOfAWay(2);
        for (int i = 0; i < calls.size(); i++) {
            On call = calls.get(i);
            boolean without = i < 2 || OF_A_WAY[i].equals("enter");
            DartHangar h = full();
            if (without) {
                check.due(true, Check.thrownBy(() -> call.make(h)).equals("nothing"), OF_A_WAY[i] + " needs no MAKE");
            } else {
                check.refused(Check.STATE, OF_A_WAY[i] + " of a WAY without a MAKE", () -> call.make(h));
            }
        }
    }

    private static void noSuchHandAnywhere() {
        check.says(21, "NoSuchElementException: no such HAND (as everywhere)");
        String[] names = {"toss", "reach", "ears", "best", "change", "mend", "odds", "enter", "hours", "take"};
        int[] hands = {-1, 3, 4, 5, Integer.MIN_VALUE, Integer.MAX_VALUE, 0};
        for (int hand : hands) {
            List<On> calls = List.of(h -> h.toss(hand, 10, 0, 1), h -> h.reach(0, 0, hand, true), h -> h.ears(0, hand, true), h -> h.best(hand, true),
                h -> h.change(0, 0, hand, true, 0), h -> h.mend(0, 0, hand, true), h -> h.odds(0, 0, hand, 1, 1, 0, 1), h -> h.enter(0, 0, hand),
                h -> h.hours(0, 0, hand, true, 0), h -> h.take(0, hand));
            for (int i = 0; i < calls.size(); i++) {
                On call = calls.get(i);
                DartHangar h = full();
                if (hand == 0) {
                    check.due(true, Check.thrownBy(() -> call.make(h)).equals("nothing"), names[i] + " of HAND 0 is fine");
                } else {
                    check.refused(Check.NO_ELEMENT, names[i] + " of HAND " + hand, () -> call.make(h));
                }
            }
        }
    }

    private static void wrongEarsSpeedSlantAnywhere() {
        check.says(11, "IllegalArgumentException: EARS, SPEED, SLANT (as everywhere)");
        for (int ears : new int[] {-10, 10, -9, 9, Integer.MIN_VALUE, Integer.MAX_VALUE}) {
            String[] names = {"fly", "at", "slant", "rest", "why", "reach", "change", "mend", "hoop", "odds", "enter", "hours"};
            List<On> calls = List.of(h -> h.fly(0, ears, 100, 0, 0), h -> h.at(0, ears, 100, 0, 0, 0), h -> h.slant(0, ears, 100, true), h -> h.rest(0, ears, -1),
                h -> h.why(0, ears), h -> h.reach(0, ears, 0, true), h -> h.change(0, ears, 0, true, 0), h -> h.mend(0, ears, 0, true),
                h -> h.hoop(0, ears, 100, 0, 1, 0, 1), h -> h.odds(0, ears, 0, 1, 1, 0, 1), h -> h.enter(0, ears, 0), h -> h.hours(0, ears, 0, true, 0));
            dueBounds("EARS", ears, Math.abs((long) ears) <= 9, names, calls);
        }
        for (int speed : new int[] {9, 1000, 10, 999, 0, -10, Integer.MIN_VALUE, Integer.MAX_VALUE}) {
            String[] names = {"fly", "at", "slant", "toss", "hoop", "seen"};
            List<On> calls = List.of(h -> h.fly(0, 0, speed, 0, 0), h -> h.at(0, 0, speed, 0, 0, 0), h -> h.slant(0, 0, speed, true), h -> h.toss(0, speed, 0, 1),
                h -> h.hoop(0, 0, speed, 0, 1, 0, 1), h -> h.seen(0, speed, 0, 0, 0));
            dueBounds("SPEED", speed, speed >= 10 && speed <= 999, names, calls);
        }
        for (int slant : new int[] {-17, 17, -16, 16, 64, Integer.MIN_VALUE, Integer.MAX_VALUE}) {
            String[] names = {"fly", "at", "toss", "hoop", "seen"};
            List<On> calls = List.of(h -> h.fly(0, 0, 100, slant, 0), h -> h.at(0, 0, 100, slant, 0, 0), h -> h.toss(0, 100, slant, 1),
                h -> h.hoop(0, 0, 100, slant, 1, 0, 1), h -> h.seen(0, 100, slant, 0, 0));
            dueBounds("SLANT", slant, slant >= -16 && slant <= 16, names, calls);
        }
    }

    private static void dueBounds(String what, int number, boolean fine, String[] names, List<On> calls) {
        for (int i = 0; i < calls.size(); i++) {
            On call = calls.get(i);
            DartHangar h = full();
            if (fine) {
                check.due(true, Check.thrownBy(() -> call.make(h)).equals("nothing"), names[i] + " with " + what + " " + number + " is fine");
            } else {
                check.refused(Check.ARGUMENT, names[i] + " with " + what + " " + number, () -> call.make(h));
            }
        }
    }

    private interface Asked {
        long answerOf(DartHangar h);
    }

    /** A call that answers NONE because there are as many as may be leaves all as it is. */
    private static void fullListsChangeNothing() {
        check.says(3, "NONE, and nothing changes, if there would be more than 400.");
        dueFull(19, h -> h.feed(0x20202020, 0x20202020, 0x20202020, 0x20202020, 0x20202020), h -> h.feed(0, 0, 0, 0, 0));
        check.says(4, "NONE if there are 6 (the tape stays)");
        dueFull(3, h -> {
            h.way(0);
            Check.feed(h, "thin 9;pull 4;");
        }, h -> h.way(7));
        check.says(13, "A DRAUGHT more: its number; NONE if there are 4.");
        dueFull(3, h -> h.draught(1, 9, 2), h -> h.draught(1, 200, 9));
        check.says(14, "A CRATE more: its number; NONE if there are 3.");
        dueFull(2, h -> h.crate(4000, 500), h -> h.crate(100, 9999));
        check.says(20, "A HAND more, without THROWS: its number; NONE if there are 5.");
        dueFull(2, h -> h.hand(), h -> h.hand());
        check.says(21, "A THROW more of a HAND: how many it has; NONE if it has 4.");
        dueFull(2, h -> h.toss(0, 70, 3, 2), h -> h.toss(0, 400, 5, 9));
        check.says(29, "An ENTRY more: its number; NONE if there are 4.");
        dueFull(2, h -> h.enter(1, 3, 0), h -> h.enter(0, -3, 2));
    }

    private static void dueFull(int room, On fits, Asked tooMany) {
        DartHangar one = full();
        DartHangar other = full();
        for (int i = 0; i < room; i++) {
            fits.make(one);
            fits.make(other);
        }
        for (int i = 0; i < 3; i++) {
            check.due(-1, tooMany.answerOf(one), "one too many");
        }
        dueTrace(trace(other), trace(one), "behind one too many");
    }
}

import java.util.ArrayList;
import java.util.Arrays;
import java.util.List;
import java.util.Random;

/** Long runs of drawn calls, each answer held against the model's. The draws are always the same. */
public final class RandomRunsTest {
    private static final int RUNS = 300;
    /** An object is promised for 512 calls; one draw here may make some thirty of them. */
    private static final int CALLS = 480;

    private interface Call {
        long answer();
    }

    private interface Order {
        void carryOut();
    }

    private final Random random;
    private final List<String> told = new ArrayList<>();
    private DartHangar hangar;
    private Model model;
    private String wrong;

    private RandomRunsTest(long seed) {
        this.random = new Random(seed);
    }

    public static void main(String[] args) {
        int failed = 0;
        for (int run = 0; run < RUNS && failed < 5; run++) {
            RandomRunsTest test = new RandomRunsTest(7_000 + run);
            if (!test.run()) {
                failed++;
                System.out.println("run " + run + ":");
                int from = Math.max(0, test.told.size() - 40);
                for (String row : test.told.subList(from, test.told.size())) {
                    System.out.println("  " + row);
                }
                System.out.println("  " + test.wrong);
            }
        }
        System.out.println(failed == 0 ? "all drawn runs are as the model's" : failed + " runs differ");
        if (failed != 0) {
            System.exit(1);
        }
    }

    private boolean run() {
        hangar = new DartHangar();
        model = new Model();
        int heavy = 0;
        prepare();
        for (int i = 0; i < CALLS && told.size() < CALLS && wrong == null; i++) {
            int kind = random.nextInt(46);
            boolean dear = kind >= 39;
            if (dear && (random.nextInt(3) > 0 || ++heavy > 20)) {
                continue;
            }
            call(kind);
        }
        return wrong == null;
    }

    /** Some WAYS that mostly have a MAKE, and HANDS with THROWS: else most calls would only throw. */
    private void prepare() {
        if (random.nextInt(10) == 0) {
            return;
        }
        for (int i = draw(1, 4); i > 0; i--) {
            StringBuilder text = new StringBuilder();
            for (int k = draw(0, 3); k > 0; k--) {
                text.append(new String[] {"nose 1;", "nose 2;", "side 1;", "corner 3;", "corner 4;", "nose 3;"}[random.nextInt(6)]);
            }
            feedText(text.toString());
            same("way " + text, () -> hangar.way(text.length()), () -> model.way(text.length()));
        }
        for (int h = 0; h < draw(1, 3); h++) {
            int hand = h;
            same("hand", () -> hangar.hand(), () -> model.hand());
            for (int k = draw(1, 4); k > 0; k--) {
                int v = draw(20, 300);
                int s = draw(-10, 16);
                int c = draw(1, 9);
                same("toss " + hand + " " + v + " " + s + " " + c, () -> hangar.toss(hand, v, s, c), () -> model.toss(hand, v, s, c));
            }
        }
    }

    // ---- draws

    private int draw(int from, int to) {
        return from + random.nextInt(to - from + 1);
    }

    /** Mostly within the bounds, now and then just outside of them or far off. */
    private int number(int from, int to) {
        switch (random.nextInt(40)) {
            case 0: return from - 1;
            case 1: return to + 1;
            case 2: return from;
            case 3: return to;
            case 4: return random.nextInt(60) == 0 ? random.nextInt() : from;
            case 5: return random.nextInt(9) == 0 ? Integer.MIN_VALUE : to;
            default: return draw(from, to);
        }
    }

    private int aWay() {
        int many = model.s.ways.size();
        return many == 0 || random.nextInt(30) == 0 ? draw(-1, 6) : draw(0, many - 1);
    }

    private int aHand() {
        int many = model.s.hands.size();
        return many == 0 || random.nextInt(30) == 0 ? draw(-1, 5) : draw(0, many - 1);
    }

    private int ears() {
        return number(-9, 9);
    }

    private int speed() {
        return random.nextInt(3) == 0 ? number(10, 999) : number(10, 250);
    }

    private int aSlant() {
        return number(-16, 16);
    }

    private int hoopX() {
        return random.nextInt(4) == 0 ? number(1, 99999) : draw(1, 4000);
    }

    private boolean coin() {
        return random.nextBoolean();
    }

    private String wayText() {
        StringBuilder text = new StringBuilder();
        int folds = random.nextInt(12) == 0 ? draw(9, 13) : draw(0, 4);
        for (int i = 0; i < folds; i++) {
            int kind = random.nextInt(3);
            text.append(new String[] {"nose", "side", "corner"}[kind]).append(gap(1));
            text.append(random.nextInt(25) == 0 ? draw(0, 140) : draw(1, kind == 2 ? 5 : 3));
            text.append(gap(0)).append(';').append(gap(0));
        }
        return spoilt(text);
    }

    private String gap(int least) {
        return new String[] {"", " ", "\n", "  "}[random.nextInt(5) > 0 ? least : random.nextInt(4)];
    }

    private String lawText() {
        StringBuilder text = new StringBuilder();
        int lines = draw(0, 5);
        for (int i = 0; i < lines; i++) {
            String word = new String[] {"lift", "drag", "pull", "thin", "turn", "slow", "roof"}[random.nextInt(7)];
            text.append(word);
            boolean bow = word.equals("lift") || word.equals("drag");
            int most = bow || word.equals("thin") || word.equals("turn") ? 99
                : word.equals("pull") ? 50 : word.equals("slow") ? 9 : 99;
            int least = word.equals("roof") ? 10 : word.equals("pull") || word.equals("thin") ? 1 : 0;
            for (int k = 0; k < (bow ? 9 : 1); k++) {
                int v = random.nextInt(30) == 0 ? draw(0, 110) : draw(least, random.nextInt(4) == 0 ? most : Math.min(most, least + 20));
                text.append(' ').append(gap(0)).append(random.nextInt(20) == 0 && v < 10 ? "0" : "").append(v);
            }
            text.append(gap(0)).append(';').append(gap(0));
        }
        return spoilt(text);
    }

    private String spoilt(StringBuilder text) {
        if (random.nextInt(4) == 0 && text.length() > 0) {
            int at = random.nextInt(text.length());
            String signs = ";;aonr 019\n\tAZ{`/:\u0000\u00e9";
            char sign = signs.charAt(random.nextInt(signs.length()));
            switch (random.nextInt(3)) {
                case 0: text.setCharAt(at, sign); break;
                case 1: text.insert(at, sign); break;
                default: text.deleteCharAt(at); break;
            }
        }
        return text.length() > 400 ? text.substring(0, 400) : text.toString();
    }

    // ---- calls

    private static String outcome(Call call) {
        try {
            return Long.toString(call.answer());
        } catch (RuntimeException e) {
            return "throws." + e.getClass().getSimpleName();
        }
    }

    private void same(String text, Call ours, Call due) {
        if (wrong != null) {
            return;
        }
        String got = outcome(ours);
        String want = outcome(due);
        told.add(text + " -> " + got);
        if (!got.equals(want)) {
            wrong = "due is " + want;
        }
    }

    private void order(String text, Order ours, Order due) {
        same(text, () -> {
            ours.carryOut();
            return 0;
        }, () -> {
            due.carryOut();
            return 0;
        });
    }

    private void feedText(String text) {
        int[] five = new int[5];
        for (int i = 0; i < text.length(); i += 20) {
            Arrays.fill(five, 0);
            for (int k = 0; k < 20; k++) {
                int b = i + k < text.length() ? text.charAt(i + k) : ' ';
                five[k / 4] = five[k / 4] << 8 | b;
            }
            int[] f = five.clone();
            same("feed " + Arrays.toString(f), () -> hangar.feed(f[0], f[1], f[2], f[3], f[4]), () -> model.feed(f));
        }
    }

    private void call(int kind) {
        if (kind < 9) {
            callSheet(kind);
        } else if (kind < 20) {
            callFlight(kind);
        } else if (kind < 33) {
            callHand(kind);
        } else {
            callRest(kind);
        }
    }

    private void callSheet(int kind) {
        int w = aWay();
        switch (kind) {
            case 0: {
                if (random.nextInt(3) > 0) {
                    return;
                }
                int r = random.nextInt(3) == 0 ? number(4, 24) : draw(6, 12);
                int c = number(3, 12);
                order("sheet " + r + " " + c, () -> hangar.sheet(r, c), () -> model.sheet(r, c));
                return;
            }
            case 1: case 2: {
                String text = wayText();
                feedText(text);
                int n = random.nextInt(20) == 0 ? draw(-1, 401) : text.length();
                same("way " + n + " " + text.replace('\n', '|'), () -> hangar.way(n), () -> model.way(n));
                break;
            }
            case 3: {
                if (random.nextInt(3) > 0) {
                    return;
                }
                String text = lawText();
                feedText(text);
                int n = random.nextInt(20) == 0 ? draw(-1, 401) : text.length();
                same("law " + n + " " + text.replace('\n', '|'), () -> hangar.law(n), () -> model.law(n));
                break;
            }
            case 4: {
                int i = draw(-2, 12);
                same("fold " + w + " " + i, () -> hangar.fold(w, i), () -> model.fold(w, i));
                return;
            }
            case 5:
                same("breaks " + w, () -> hangar.breaks(w), () -> model.breaks(w));
                return;
            case 6: {
                int what = number(0, 6);
                same("make " + w + " " + what, () -> hangar.make(w, what), () -> model.make(w, what));
                return;
            }
            case 7: {
                int r = number(0, 10);
                int c = number(0, 7);
                same("layers " + w + " " + r + " " + c, () -> hangar.layers(w, r, c), () -> model.layers(w, r, c));
                return;
            }
            default: {
                int what = draw(-2, 15);
                same("count " + what, () -> hangar.count(what), () -> model.count(what));
                return;
            }
        }
        for (int what = -1; what <= 2; what++) {
            int k = what;
            same("fault " + k, () -> hangar.fault(k), () -> model.fault(k));
        }
    }

    private void callFlight(int kind) {
        int w = aWay();
        int e = ears();
        int v = speed();
        int s = aSlant();
        String told = w + " " + e + " " + v + " " + s + " ";
        switch (kind) {
            case 9: case 10: case 11: {
                int what = number(0, 5);
                same("fly " + told + what, () -> hangar.fly(w, e, v, s, what), () -> model.fly(w, e, v, s, what));
                return;
            }
            case 12: case 13: {
                int t = random.nextInt(3) == 0 ? number(0, 200) : draw(0, 40);
                int what = number(0, 5);
                same("at " + told + t + " " + what, () -> hangar.at(w, e, v, s, t, what), () -> model.at(w, e, v, s, t, what));
                return;
            }
            case 14: {
                int from = number(1, 200);
                int to = coin() ? number(1, 200) : from;
                int air = number(-20, 20);
                same("draught " + from + " " + to + " " + air, () -> hangar.draught(from, to, air), () -> model.draught(from, to, air));
                return;
            }
            case 15: {
                int x = hoopX();
                int y = coin() ? number(1, 9999) : draw(1, 2500);
                same("crate " + x + " " + y, () -> hangar.crate(x, y), () -> model.crate(x, y));
                return;
            }
            case 16:
                if (random.nextInt(4) == 0) {
                    same("still", () -> hangar.still(), () -> model.still());
                } else {
                    int d = number(0, 50);
                    same("damp " + d, () -> hangar.damp(d), () -> model.damp(d));
                }
                return;
            case 17: {
                int i = draw(-2, 4);
                same("rest " + w + " " + e + " " + i, () -> hangar.rest(w, e, i), () -> model.rest(w, e, i));
                return;
            }
            case 18:
                same("why " + w + " " + e, () -> hangar.why(w, e), () -> model.why(w, e));
                return;
            default: {
                int x = hoopX();
                int from = coin() ? number(0, 9999) : draw(0, 2500);
                int to = coin() ? number(0, 9999) : from + draw(0, 1500);
                same("hoop " + told + x + " " + from + " " + to, () -> hangar.hoop(w, e, v, s, x, from, to) ? 1 : 0,
                    () -> model.hoop(w, e, v, s, x, from, to) ? 1 : 0);
                return;
            }
        }
    }

    private void callHand(int kind) {
        int w = aWay();
        int e = ears();
        int h = aHand();
        int v = speed();
        int s = aSlant();
        boolean lasts = coin();
        switch (kind) {
            case 20:
                same("hand", () -> hangar.hand(), () -> model.hand());
                return;
            case 21: case 22: {
                int c = number(1, 9);
                same("toss " + h + " " + v + " " + s + " " + c, () -> hangar.toss(h, v, s, c), () -> model.toss(h, v, s, c));
                return;
            }
            case 23:
                same("reach " + w + " " + e + " " + h + " " + lasts, () -> hangar.reach(w, e, h, lasts), () -> model.reach(w, e, h, lasts));
                return;
            case 24: {
                int x = hoopX();
                int from = draw(0, 2000);
                int to = coin() ? number(0, 9999) : from + draw(0, 1500);
                int n = random.nextInt(8) == 0 ? number(1, 4) : draw(1, 3);
                same("odds " + w + " " + e + " " + h + " " + n + " " + x + " " + from + " " + to,
                    () -> hangar.odds(w, e, h, n, x, from, to), () -> model.odds(w, e, h, n, x, from, to));
                return;
            }
            case 25:
                same("enter " + w + " " + e + " " + h, () -> hangar.enter(w, e, h), () -> model.enter(w, e, h));
                return;
            case 26: {
                int entry = random.nextInt(20) == 0 ? draw(-1, 4) : draw(0, Math.max(0, model.s.entries.size() - 1));
                same("wins " + entry, () -> hangar.wins(entry), () -> model.wins(entry));
                return;
            }
            case 27: {
                long limit = limitFor(w, e, h, lasts);
                same("hours " + w + " " + e + " " + h + " " + lasts + " " + limit,
                    () -> hangar.hours(w, e, h, lasts, limit), () -> model.hours(w, e, h, lasts, limit));
                return;
            }
            case 28: case 29:
                callSeen(w, v, s);
                return;
            default:
                callTray(kind);
                return;
        }
    }

    private long limitFor(int w, int e, int h, boolean lasts) {
        try {
            return model.reach(w, coin() ? 0 : e / 2, h, lasts) + draw(0, 2);
        } catch (RuntimeException none) {
            return draw(-100, 10000);
        }
    }

    private void callSeen(int w, int v, int s) {
        int e = draw(-9, 9);
        int far = draw(0, 2000);
        int lasted = draw(0, 200);
        try {
            far = model.fly(w, e, v, s, 0);
            lasted = model.fly(w, e, v, s, 1) + (random.nextInt(6) == 0 ? 1 : 0);
        } catch (RuntimeException none) {
            lasted = 20;
        }
        int f = far;
        int l = lasted;
        same("seen " + w + " " + v + " " + s + " " + f + " " + l, () -> hangar.seen(w, v, s, f, l), () -> model.seen(w, v, s, f, l));
    }

    private void callTray(int kind) {
        int t = random.nextInt(20) == 0 ? draw(-1, 4) : draw(0, 3);
        int h = aHand();
        switch (kind) {
            case 30: {
                int sort = number(0, 3);
                int many = coin() ? number(0, 12) : 3 * draw(0, 4);
                order("tray " + t + " " + sort + " " + many, () -> hangar.tray(t, sort, many), () -> model.tray(t, sort, many));
                return;
            }
            case 31: {
                int place = number(0, 11);
                long v = random.nextInt(4) == 0 ? random.nextLong() : draw(-40000, 40000);
                same("write " + t + " " + place + " " + v, () -> hangar.write(t, place, v), () -> model.write(t, place, v));
                return;
            }
            default:
                if (random.nextInt(3) == 0) {
                    fillTray(t);
                }
                same("take " + t + " " + h, () -> hangar.take(t, h), () -> model.take(t, h));
                return;
        }
    }

    private void fillTray(int t) {
        for (int i = 0; i < 12; i++) {
            int place = i;
            int v = i % 3 == 0 ? number(10, 120) : i % 3 == 1 ? number(-16, 16) : number(1, 9);
            same("write " + t + " " + place + " " + v, () -> hangar.write(t, place, v), () -> model.write(t, place, v));
        }
    }

    private void callRest(int kind) {
        int w = aWay();
        int e = ears();
        int h = aHand();
        boolean lasts = coin();
        switch (kind) {
            case 33: case 34: {
                int i = number(0, 2);
                order("image " + i, () -> hangar.image(i), () -> model.image(i));
                return;
            }
            case 35: {
                if (random.nextInt(4) > 0) {
                    return;
                }
                int i = number(0, 2);
                order("restore " + i, () -> hangar.restore(i), () -> model.restore(i));
                return;
            }
            case 36: case 37:
                if (coin()) {
                    callFound();
                }
                return;
            case 38:
                if (random.nextInt(5) > 0) {
                    return;
                }
                for (int what = 0; what <= 13; what++) {
                    int k = what;
                    same("count " + k, () -> hangar.count(k), () -> model.count(k));
                }
                return;
            case 39: case 40: {
                int v = speed();
                same("slant " + w + " " + e + " " + v + " " + lasts, () -> hangar.slant(w, e, v, lasts), () -> model.slant(w, e, v, lasts));
                return;
            }
            case 41: case 42:
                same("ears " + w + " " + h + " " + lasts, () -> hangar.ears(w, h, lasts), () -> model.ears(w, h, lasts));
                return;
            case 43:
                same("best " + h + " " + lasts, () -> hangar.best(h, lasts), () -> model.best(h, lasts));
                return;
            case 44: {
                int what = number(0, 2);
                same("change " + w + " " + e + " " + h + " " + lasts + " " + what,
                    () -> hangar.change(w, e, h, lasts, what), () -> model.change(w, e, h, lasts, what));
                return;
            }
            default:
                same("mend " + w + " " + e + " " + h + " " + lasts, () -> hangar.mend(w, e, h, lasts), () -> model.mend(w, e, h, lasts));
                for (int i = -1; i < 11; i++) {
                    int k = i;
                    same("fold " + w + " " + k, () -> hangar.fold(w, k), () -> model.fold(w, k));
                }
                return;
        }
    }

    private void callFound() {
        int area = draw(1, 60);
        int front = draw(1, 400);
        int w = aWay();
        try {
            area = model.make(w, 2);
            front = model.make(w, 4);
        } catch (RuntimeException none) {
            area = 48;
        }
        int a = area;
        int f = front;
        for (int i = -2; i <= 2; i++) {
            int k = i;
            same("found " + a + " " + f + " " + k, () -> hangar.found(a, f, k), () -> model.found(a, f, k));
        }
    }
}

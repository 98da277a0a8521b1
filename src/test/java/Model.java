import java.util.ArrayList;
import java.util.Arrays;
import java.util.List;
import java.util.NoSuchElementException;
import java.util.regex.Matcher;
import java.util.regex.Pattern;

/**
 * The document said a second time, by brute force and with new lists everywhere: what the class
 * answers is held against it. It shares no line of thought with the class that could be avoided.
 */
final class Model {
    static final class State {
        int rows = 8;
        int columns = 6;
        List<List<int[]>> ways = new ArrayList<>();
        int[] lift = {0, 10, 20, 30, 40, 45, 40, 25, 10};
        int[] drag = {2, 3, 4, 6, 9, 14, 22, 34, 50};
        int pull = 10;
        int thin = 10;
        int turn = 10;
        int slow = 3;
        int roof = -1;
        List<List<int[]>> hands = new ArrayList<>();
        List<int[]> draughts = new ArrayList<>();
        List<int[]> crates = new ArrayList<>();
        List<int[]> entries = new ArrayList<>();
        int damp = 0;

        State copy() {
            State c = new State();
            c.rows = rows;
            c.columns = columns;
            for (List<int[]> way : ways) {
                c.ways.add(new ArrayList<>(way));
            }
            c.lift = lift.clone();
            c.drag = drag.clone();
            c.pull = pull;
            c.thin = thin;
            c.turn = turn;
            c.slow = slow;
            c.roof = roof;
            for (List<int[]> hand : hands) {
                c.hands.add(new ArrayList<>(hand));
            }
            c.draughts = new ArrayList<>(draughts);
            c.crates = new ArrayList<>(crates);
            c.entries = new ArrayList<>(entries);
            c.damp = damp;
            return c;
        }
    }

    static final class Make {
        int[][] cells;
        int area;
        int weight;
        int front;
        int wing;
        int lever;
    }

    /** What is known behind each TICK, the state ahead of the first one at 0. */
    static final class Trip {
        List<int[]> behind = new ArrayList<>();
        int landed;

        int far() { return behind.get(behind.size() - 1)[0]; }

        int lasted() { return behind.size() - 1; }
    }

    State s = new State();
    String tape = "";
    int fault = 0;
    int faultPlace = -1;
    long[][] trays = new long[4][];
    int[] sorts = new int[4];
    State[] images = new State[3];

    // ---- helpers

    private static void arg(boolean fine) {
        if (!fine) {
            throw new IllegalArgumentException();
        }
    }

    private static boolean in(long v, long a, long b) {
        return a <= v && v <= b;
    }

    private List<int[]> wayOf(int way) {
        if (!in(way, 0, s.ways.size() - 1)) {
            throw new NoSuchElementException();
        }
        return s.ways.get(way);
    }

    private List<int[]> handOf(int hand) {
        if (!in(hand, 0, s.hands.size() - 1)) {
            throw new NoSuchElementException();
        }
        return s.hands.get(hand);
    }

    private Make makeOf(int way) {
        Make m = fold(wayOf(way));
        if (m == null) {
            throw new IllegalStateException();
        }
        return m;
    }

    private static int[][] foldOne(int[][] from, int kind, int n) {
        int r = from.length;
        int c = from[0].length;
        int[][] to = new int[r][];
        for (int i = 0; i < r; i++) {
            to[i] = from[i].clone();
        }
        if (kind == 0) {
            if (!in(n, 1, r / 2)) {
                return null;
            }
            for (int k = 0; k <= n - 1; k++) {
                for (int j = 0; j < c; j++) {
                    to[2 * n - 1 - k][j] += from[k][j];
                }
            }
            to = Arrays.copyOfRange(to, n, r);
        } else if (kind == 1) {
            if (!in(n, 1, c / 2)) {
                return null;
            }
            for (int i = 0; i < r; i++) {
                for (int k = 0; k < n; k++) {
                    to[i][c - 2 * n + k] += from[i][c - 1 - k];
                }
                to[i] = Arrays.copyOf(to[i], c - n);
            }
        } else {
            if (!in(n, 2, Math.min(r, c))) {
                return null;
            }
            for (int i = 0; i < r; i++) {
                for (int j = 0; j < c; j++) {
                    int d = c - 1 - j;
                    if (i + d < n - 1) {
                        to[n - 1 - d][c - 1 - (n - 1 - i)] += from[i][j];
                        to[i][j] = 0;
                    }
                }
            }
        }
        for (int[] row : to) {
            for (int cell : row) {
                if (cell > 32) {
                    return null;
                }
            }
        }
        return to;
    }

    private int[][] flat() {
        int[][] cells = new int[s.rows][s.columns];
        for (int[] row : cells) {
            Arrays.fill(row, 1);
        }
        return cells;
    }

    private int firstBreak(List<int[]> way) {
        int[][] cells = flat();
        for (int i = 0; i < way.size(); i++) {
            cells = foldOne(cells, way.get(i)[0], way.get(i)[1]);
            if (cells == null) {
                return i;
            }
        }
        return -1;
    }

    private Make fold(List<int[]> way) {
        if (firstBreak(way) != -1) {
            return null;
        }
        Make m = new Make();
        m.cells = flat();
        for (int[] f : way) {
            m.cells = foldOne(m.cells, f[0], f[1]);
        }
        for (int i = 0; i < m.cells.length; i++) {
            for (int v : m.cells[i]) {
                m.weight += v;
                m.front += v * (2 * i + 1);
                m.area += v > 0 ? 1 : 0;
                m.wing += v > 0 ? 2 * i + 1 : 0;
            }
        }
        long top = 10L * ((long) m.wing * m.weight - (long) m.front * m.area);
        m.lever = (int) (top / ((long) m.area * m.weight));
        return m;
    }

    private static final int[] SINES =
        {0, 98, 195, 290, 383, 471, 556, 634, 707, 773, 831, 882, 924, 957, 981, 995, 1000};

    private static long sin(int d) {
        if (d <= 16) {
            return SINES[d];
        }
        return d <= 32 ? SINES[32 - d] : -sin(d - 32);
    }

    private static long cos(int d) {
        return sin(d + 16 >= 64 ? d + 16 - 64 : d + 16);
    }

    private long weightNow(Make m) {
        return m.weight + m.weight * s.damp / 100;
    }

    private Trip trip(Make m, int e, int speed, int slant) {
        Trip t = new Trip();
        int direction = slant < 0 ? slant + 64 : slant;
        long x = 0;
        long y = 2000;
        long vx = speed * cos(direction) / 1000;
        long vy = speed * sin(direction) / 1000;
        long nose = 16 * direction;
        long spin = 0;
        t.behind.add(new int[] {0, 2000, (int) vx, (int) vy, (int) nose, 0});
        for (int tick = 1; tick <= 200; tick++) {
            int path = 0;
            for (int d = 1; d < 64; d++) {
                if (vx * cos(d) + vy * sin(d) > vx * cos(path) + vy * sin(path)) {
                    path = d;
                }
            }
            long attack = nose / 16 - path;
            while (attack < -32) {
                attack += 64;
            }
            while (attack > 31) {
                attack -= 64;
            }
            attack = attack < -8 ? -8 : attack > 8 ? 8 : attack;
            int a = (int) (attack < 0 ? -attack : attack);
            long q = (vx * vx + vy * vy) / 1000;
            long lift = s.lift[a] * q * m.area / (weightNow(m) * s.thin) * (attack < 0 ? -1 : 1);
            long drag = s.drag[a] * q * m.area / (weightNow(m) * s.thin);
            spin = spin + (e * q - m.lever * lift) * s.turn / 1000;
            spin = spin - spin * s.slow / 10;
            spin = spin < -200 ? -200 : spin > 200 ? 200 : spin;
            nose = (nose + spin + 1024) % 1024;
            vx = vx + (-drag * cos(path) - lift * sin(path)) / 1000;
            long pull = s.pull;
            for (int[] draught : s.draughts) {
                pull -= in(tick, draught[0], draught[1]) ? draught[2] : 0;
            }
            vy = vy + (-drag * sin(path) + lift * cos(path)) / 1000 - pull;
            vx = vx < -2000 ? -2000 : vx > 2000 ? 2000 : vx;
            vy = vy < -2000 ? -2000 : vy > 2000 ? 2000 : vy;
            long before = x;
            x += vx;
            y += vy;
            if (s.roof > 0 && y > s.roof * 100) {
                y = s.roof * 100;
                vy = -vy / 2;
            }
            long stop = Long.MAX_VALUE;
            for (int[] crate : s.crates) {
                if (before < crate[0] && crate[0] <= x && y <= crate[1]) {
                    stop = Math.min(stop, crate[0]);
                }
            }
            if (stop != Long.MAX_VALUE) {
                x = stop;
                t.landed = 2;
            } else if (y <= 0) {
                t.landed = 1;
            }
            t.behind.add(new int[] {(int) x, (int) y, (int) vx, (int) vy, (int) nose, (int) spin});
            if (t.landed != 0) {
                break;
            }
        }
        return t;
    }

    private long reachBy(Make m, int ears, List<int[]> hand, boolean lasts) {
        long sum = 0;
        for (int[] thrown : hand) {
            Trip t = trip(m, ears, thrown[0], thrown[1]);
            sum += (long) thrown[2] * (lasts ? t.lasted() : t.far());
        }
        return sum;
    }

    // ---- the face

    void sheet(int rows, int columns) {
        arg(in(rows, 4, 24) && in(columns, 3, 12));
        s.rows = rows;
        s.columns = columns;
    }

    int feed(int... five) {
        if (tape.length() + 20 > 400) {
            return -1;
        }
        for (int v : five) {
            for (int b = 3; b >= 0; b--) {
                tape += (char) ((v >>> (8 * b)) % 256);
            }
        }
        return tape.length();
    }

    private static final class Token {
        int place;
        int kind;       // 0 end, 1 a word, 2 an N, 3 the sign, 4 none
        String text;
    }

    private static final Pattern TOKEN = Pattern.compile("[\\n ]*(?:([a-z]+)|([0-9]+)|(;)|(.)|\\z)", Pattern.DOTALL);

    private static List<Token> tokens(String text) {
        List<Token> all = new ArrayList<>();
        Matcher m = TOKEN.matcher(text);
        int from = 0;
        while (true) {
            m.region(from, text.length());
            Token t = new Token();
            if (!m.lookingAt()) {
                throw new AssertionError("the model's pattern");
            }
            for (int g = 1; g <= 4; g++) {
                if (m.group(g) != null) {
                    t.kind = g;
                    t.text = m.group(g);
                    t.place = m.start(g);
                }
            }
            if (t.kind == 2 && t.text.length() > 2) {
                t.kind = 4;
            }
            if (t.kind == 0) {
                t.place = text.length();
                t.text = "";
            }
            all.add(t);
            if (t.kind == 0 || t.kind == 4) {
                return all;
            }
            from = m.end();
        }
    }

    private boolean fault(Token t, int kind) {
        fault = t.kind == 4 ? 1 : kind;
        faultPlace = t.place;
        return false;
    }

    private String cutTape(int n) {
        arg(in(n, 0, tape.length()));
        String text = tape.substring(0, n);
        tape = "";
        fault = 0;
        faultPlace = -1;
        return text;
    }

    private boolean readWay(List<Token> tokens, List<int[]> way) {
        List<String> kinds = List.of("nose", "side", "corner");
        for (int i = 0; tokens.get(i).kind != 0; i += 3) {
            Token word = tokens.get(i);
            if (word.kind != 1 || !kinds.contains(word.text)) {
                return fault(word, 2);
            }
            if (way.size() == 11) {
                return fault(word, 4);
            }
            Token n = tokens.get(i + 1);
            if (n.kind != 2) {
                return fault(n, 2);
            }
            if (!in(Integer.parseInt(n.text), 1, 12)) {
                return fault(n, 3);
            }
            if (tokens.get(i + 2).kind != 3) {
                return fault(tokens.get(i + 2), 2);
            }
            way.add(new int[] {kinds.indexOf(word.text), Integer.parseInt(n.text)});
        }
        return true;
    }

    int way(int n) {
        arg(in(n, 0, tape.length()));
        if (s.ways.size() == 6) {
            return -1;
        }
        List<int[]> way = new ArrayList<>();
        if (!readWay(tokens(cutTape(n)), way)) {
            return -10 - fault;
        }
        s.ways.add(way);
        return s.ways.size() - 1;
    }

    private int readLaw(List<Token> tokens, State law) {
        int lines = 0;
        int i = 0;
        while (tokens.get(i).kind != 0) {
            Token word = tokens.get(i++);
            int many = word.text.equals("lift") || word.text.equals("drag") ? 9 : 1;
            if (word.kind != 1 || !List.of("lift", "drag", "pull", "thin", "turn", "slow", "roof").contains(word.text)) {
                fault(word, 2);
                return -1;
            }
            for (int k = 0; k < many; k++) {
                Token n = tokens.get(i++);
                if (n.kind != 2) {
                    fault(n, 2);
                    return -1;
                }
                if (!setLaw(law, word.text, k, Integer.parseInt(n.text))) {
                    fault(n, 3);
                    return -1;
                }
            }
            Token end = tokens.get(i++);
            if (end.kind != 3) {
                fault(end, 2);
                return -1;
            }
            lines++;
        }
        return lines;
    }

    private static boolean setLaw(State law, String word, int k, int v) {
        switch (word) {
            case "lift": law.lift[k] = v; return true;
            case "drag": law.drag[k] = v; return true;
            case "pull": law.pull = v; return in(v, 1, 50);
            case "thin": law.thin = v; return in(v, 1, 99);
            case "turn": law.turn = v; return in(v, 0, 99);
            case "slow": law.slow = v; return in(v, 0, 9);
            default: law.roof = v; return in(v, 10, 99);
        }
    }

    int law(int n) {
        State law = new State();
        int lines = readLaw(tokens(cutTape(n)), law);
        if (fault != 0) {
            return -10 - fault;
        }
        s.lift = law.lift;
        s.drag = law.drag;
        s.pull = law.pull;
        s.thin = law.thin;
        s.turn = law.turn;
        s.slow = law.slow;
        s.roof = law.roof;
        return lines;
    }

    int fault(int what) {
        return what == 0 ? fault : what == 1 ? faultPlace : -1;
    }

    int fold(int way, int i) {
        List<int[]> w = wayOf(way);
        if (i == -1) {
            return w.size();
        }
        return in(i, 0, w.size() - 1) ? 100 * w.get(i)[0] + w.get(i)[1] : -1;
    }

    int breaks(int way) {
        return firstBreak(wayOf(way));
    }

    int make(int way, int what) {
        Make m = makeOf(way);
        arg(in(what, 0, 6));
        return new int[] {m.cells.length, m.cells[0].length, m.area, m.weight, m.front, m.wing, m.lever}[what];
    }

    int layers(int way, int row, int column) {
        Make m = makeOf(way);
        return in(row, 0, m.cells.length - 1) && in(column, 0, m.cells[0].length - 1) ? m.cells[row][column] : -1;
    }

    private static void throwArgs(int ears, int speed, int slant) {
        arg(in(ears, -9, 9) && in(speed, 10, 999) && in(slant, -16, 16));
    }

    int fly(int way, int ears, int speed, int slant, int what) {
        Make m = makeOf(way);
        throwArgs(ears, speed, slant);
        arg(in(what, 0, 5));
        Trip t = trip(m, ears, speed, slant);
        int high = 2000;
        long turned = 0;
        for (int[] b : t.behind) {
            high = Math.max(high, b[1]);
            turned += b[5];
        }
        int even = -1;
        for (int first = t.lasted() - 19; first >= 1; first--) {
            boolean calm = true;
            for (int i = first; i <= t.lasted(); i++) {
                calm &= in(t.behind.get(i)[5], -2, 2);
            }
            even = calm ? first : even;
        }
        return new int[] {t.far(), t.lasted(), high, t.landed, (int) (Math.abs(turned) / 1024), even}[what];
    }

    int at(int way, int ears, int speed, int slant, int ticks, int what) {
        Make m = makeOf(way);
        throwArgs(ears, speed, slant);
        arg(in(ticks, 0, 200) && in(what, 0, 5));
        Trip t = trip(m, ears, speed, slant);
        return t.behind.get(Math.min(ticks, t.lasted()))[what];
    }

    int draught(int from, int to, int v) {
        arg(in(from, 1, 200) && in(to, 1, 200) && in(v, -20, 20) && from <= to);
        return more(s.draughts, 4, from, to, v);
    }

    int crate(int x, int y) {
        arg(in(x, 1, 99999) && in(y, 1, 9999));
        return more(s.crates, 3, x, y);
    }

    private static int more(List<int[]> rows, int most, int... row) {
        if (rows.size() == most) {
            return -1;
        }
        rows.add(row);
        return rows.size() - 1;
    }

    int still() {
        int were = s.draughts.size() + s.crates.size();
        s.draughts.clear();
        s.crates.clear();
        return were;
    }

    int damp(int v) {
        arg(in(v, 0, 50));
        int was = s.damp;
        s.damp = v;
        return was;
    }

    int slant(int way, int ears, int speed, boolean lasts) {
        Make m = makeOf(way);
        throwArgs(ears, speed, 0);
        int[] got = new int[33];
        for (int i = 0; i < 33; i++) {
            Trip t = trip(m, ears, speed, i - 16);
            got[i] = lasts ? t.lasted() : t.far();
        }
        int most = Arrays.stream(got).max().getAsInt();
        for (int i = 0; i < 33; i++) {
            if (got[i] == most) {
                return i - 16;
            }
        }
        throw new AssertionError();
    }

    private long torque(Make m, int e, int k) {
        long lift = k < 0 ? -s.lift[-k] : s.lift[k];
        return e * weightNow(m) * s.thin - m.lever * m.area * lift;
    }

    private List<Integer> rests(Make m, int e) {
        List<Integer> all = new ArrayList<>();
        for (int k = -8; k <= 8; k++) {
            if (torque(m, e, k) == 0 || k < 8 && torque(m, e, k) > 0 && torque(m, e, k + 1) < 0) {
                all.add(k);
            }
        }
        return all;
    }

    int rest(int way, int ears, int i) {
        Make m = makeOf(way);
        throwArgs(ears, 10, 0);
        List<Integer> all = rests(m, ears);
        if (i == -1) {
            return all.size();
        }
        return in(i, 0, all.size() - 1) ? all.get(i) + 100 : -1;
    }

    int why(int way, int ears) {
        Make m = makeOf(way);
        throwArgs(ears, 10, 0);
        if (!rests(m, ears).isEmpty()) {
            return 0;
        }
        boolean allBelow = true;
        boolean allAbove = true;
        for (int k = -8; k <= 8; k++) {
            allBelow &= torque(m, ears, k) < 0;
            allAbove &= torque(m, ears, k) > 0;
        }
        return allBelow ? 1 : allAbove ? 2 : 3;
    }

    int hand() {
        if (s.hands.size() == 5) {
            return -1;
        }
        s.hands.add(new ArrayList<>());
        return s.hands.size() - 1;
    }

    int toss(int hand, int speed, int slant, int chance) {
        List<int[]> h = handOf(hand);
        arg(in(speed, 10, 999) && in(slant, -16, 16) && in(chance, 1, 9));
        return more(h, 4, speed, slant, chance) == -1 ? -1 : h.size();
    }

    long reach(int way, int ears, int hand, boolean lasts) {
        wayOf(way);
        List<int[]> h = handOf(hand);
        Make m = makeOf(way);
        throwArgs(ears, 10, 0);
        return reachBy(m, ears, h, lasts);
    }

    private int bestEars(Make m, List<int[]> h, boolean lasts) {
        int best = -9;
        long most = reachBy(m, -9, h, lasts);
        for (int e = -8; e <= 9; e++) {
            long r = reachBy(m, e, h, lasts);
            boolean nearer = Math.abs(e) < Math.abs(best);
            if (r > most || r == most && nearer) {
                best = e;
                most = r;
            }
        }
        return best;
    }

    int ears(int way, int hand, boolean lasts) {
        wayOf(way);
        List<int[]> h = handOf(hand);
        return bestEars(makeOf(way), h, lasts);
    }

    int best(int hand, boolean lasts) {
        List<int[]> h = handOf(hand);
        int best = -1;
        long most = Long.MIN_VALUE;
        for (int w = 0; w < s.ways.size(); w++) {
            Make m = fold(s.ways.get(w));
            if (m != null) {
                long r = reachBy(m, bestEars(m, h, lasts), h, lasts);
                if (r > most) {
                    most = r;
                    best = w;
                }
            }
        }
        return best;
    }

    /** Which FOLD, KIND, N, REACH; null: there is none. */
    private long[] bestChange(List<int[]> way, int ears, List<int[]> h, boolean lasts) {
        long[] best = null;
        for (int i = 0; i < way.size(); i++) {
            for (int kind = 0; kind <= 2; kind++) {
                for (int n = 1; n <= 6; n++) {
                    List<int[]> other = new ArrayList<>(way);
                    other.set(i, new int[] {kind, n});
                    boolean same = way.get(i)[0] == kind && way.get(i)[1] == n;
                    Make m = same ? null : fold(other);
                    if (m != null) {
                        long r = reachBy(m, ears, h, lasts);
                        if (best == null || r > best[3]) {
                            best = new long[] {i, kind, n, r};
                        }
                    }
                }
            }
        }
        return best;
    }

    long change(int way, int ears, int hand, boolean lasts, int what) {
        List<int[]> w = wayOf(way);
        List<int[]> h = handOf(hand);
        makeOf(way);
        throwArgs(ears, 10, 0);
        arg(in(what, 0, 2));
        long[] best = bestChange(w, ears, h, lasts);
        if (best == null) {
            return -1;
        }
        return what == 0 ? best[0] : what == 1 ? 100 * best[1] + best[2] : best[3];
    }

    int mend(int way, int ears, int hand, boolean lasts) {
        List<int[]> w = wayOf(way);
        List<int[]> h = handOf(hand);
        makeOf(way);
        throwArgs(ears, 10, 0);
        for (int done = 0; done < 4; done++) {
            long[] best = bestChange(w, ears, h, lasts);
            if (best == null || best[3] <= reachBy(makeOf(way), ears, h, lasts)) {
                return done;
            }
            w.set((int) best[0], new int[] {(int) best[1], (int) best[2]});
        }
        return 4;
    }

    private static void hoopArgs(int x, int from, int to) {
        arg(in(x, 1, 99999) && in(from, 0, 9999) && in(to, 0, 9999) && from <= to);
    }

    private static boolean through(Trip t, int x, int from, int to) {
        for (int i = 1; i <= t.lasted(); i++) {
            int[] b = t.behind.get(i);
            if (t.behind.get(i - 1)[0] < x && b[0] >= x && in(b[1], from, to)) {
                return true;
            }
        }
        return false;
    }

    boolean hoop(int way, int ears, int speed, int slant, int x, int from, int to) {
        Make m = makeOf(way);
        throwArgs(ears, speed, slant);
        hoopArgs(x, from, to);
        return through(trip(m, ears, speed, slant), x, from, to);
    }

    long odds(int way, int ears, int hand, int n, int x, int from, int to) {
        wayOf(way);
        List<int[]> h = handOf(hand);
        Make m = makeOf(way);
        throwArgs(ears, 10, 0);
        arg(in(n, 1, 4));
        hoopArgs(x, from, to);
        return hits(m, ears, h, n, new int[] {x, from, to}, false);
    }

    /** Rows of n tries, counted by their chances, of which one at least goes through. */
    private long hits(Make m, int ears, List<int[]> h, int n, int[] hoop, boolean hit) {
        if (n == 0) {
            return hit ? 1 : 0;
        }
        long sum = 0;
        for (int[] thrown : h) {
            boolean now = through(trip(m, ears, thrown[0], thrown[1]), hoop[0], hoop[1], hoop[2]);
            sum += thrown[2] * hits(m, ears, h, n - 1, hoop, hit || now);
        }
        return sum;
    }

    int enter(int way, int ears, int hand) {
        wayOf(way);
        handOf(hand);
        throwArgs(ears, 10, 0);
        return more(s.entries, 4, way, ears, hand);
    }

    long wins(int entry) {
        if (!in(entry, 0, s.entries.size() - 1)) {
            throw new NoSuchElementException();
        }
        List<List<int[]>> fars = new ArrayList<>();
        for (int[] e : s.entries) {
            Make m = fold(s.ways.get(e[0]));
            List<int[]> h = s.hands.get(e[2]);
            if (m == null || h.isEmpty()) {
                return 0;
            }
            List<int[]> row = new ArrayList<>();
            for (int[] thrown : h) {
                row.add(new int[] {trip(m, e[1], thrown[0], thrown[1]).far(), thrown[2]});
            }
            fars.add(row);
        }
        return rowsWon(fars, entry, new int[fars.size()], 0, 1);
    }

    private long rowsWon(List<List<int[]>> fars, int entry, int[] got, int next, long times) {
        if (next == got.length) {
            for (int i = 0; i < got.length; i++) {
                if (i != entry && got[i] >= got[entry]) {
                    return 0;
                }
            }
            return times;
        }
        long sum = 0;
        for (int[] one : fars.get(next)) {
            got[next] = one[0];
            sum += rowsWon(fars, entry, got, next + 1, times * one[1]);
        }
        return sum;
    }

    int hours(int way, int ears, int hand, boolean lasts, long limit) {
        wayOf(way);
        List<int[]> h = handOf(hand);
        Make m = makeOf(way);
        throwArgs(ears, 10, 0);
        for (int hour = 0; hour <= 18; hour++) {
            int e = ears;
            for (int i = 0; i < hour / 2; i++) {
                e -= Integer.signum(e);
            }
            if (reachBy(m, e, h, lasts) < limit) {
                return hour;
            }
        }
        return -1;
    }

    int seen(int way, int speed, int slant, int far, int lasted) {
        Make m = makeOf(way);
        throwArgs(0, speed, slant);
        int set = 0;
        int bit = 1;
        for (int e = -9; e <= 9; e++, bit *= 2) {
            Trip t = trip(m, e, speed, slant);
            set += t.far() == far && t.lasted() == lasted ? bit : 0;
        }
        return set;
    }

    private List<int[]> find(int area, int front, int folds, List<int[]> first) {
        Make m = fold(first);
        if (m == null) {
            return null;
        }
        if (folds == 0) {
            return m.area == area && m.front == front ? first : null;
        }
        for (int kind = 0; kind <= 2; kind++) {
            for (int n = 1; n <= 6; n++) {
                List<int[]> longer = new ArrayList<>(first);
                longer.add(new int[] {kind, n});
                List<int[]> got = find(area, front, folds - 1, longer);
                if (got != null) {
                    return got;
                }
            }
        }
        return null;
    }

    int found(int area, int front, int i) {
        for (int folds = 0; folds <= 2; folds++) {
            List<int[]> got = find(area, front, folds, new ArrayList<>());
            if (got != null) {
                if (i == -1) {
                    return folds;
                }
                return in(i, 0, folds - 1) ? 100 * got.get(i)[0] + got.get(i)[1] : -1;
            }
        }
        return -1;
    }

    private void trayThere(int tray) {
        if (!in(tray, 0, 3)) {
            throw new NoSuchElementException();
        }
    }

    void tray(int tray, int sort, int many) {
        trayThere(tray);
        arg(in(sort, 0, 3) && in(many, 0, 12));
        trays[tray] = new long[many];
        sorts[tray] = sort;
    }

    long write(int tray, int place, long v) {
        trayThere(tray);
        if (trays[tray] == null) {
            throw new IllegalStateException();
        }
        if (!in(place, 0, trays[tray].length - 1)) {
            throw new IndexOutOfBoundsException();
        }
        int lost = 64 - (8 << sorts[tray]);
        trays[tray][place] = v << lost >> lost;
        return trays[tray][place];
    }

    int take(int tray, int hand) {
        trayThere(tray);
        handOf(hand);
        long[] t = trays[tray];
        if (t == null) {
            throw new IllegalStateException();
        }
        if (t.length % 3 != 0) {
            throw new IndexOutOfBoundsException();
        }
        List<int[]> thrown = new ArrayList<>();
        for (int i = 0; i < t.length; i += 3) {
            arg(in(t[i], 10, 999) && in(t[i + 1], -16, 16) && in(t[i + 2], 1, 9));
            thrown.add(new int[] {(int) t[i], (int) t[i + 1], (int) t[i + 2]});
        }
        s.hands.set(hand, thrown);
        return thrown.size();
    }

    void image(int i) {
        if (!in(i, 0, 2)) {
            throw new NoSuchElementException();
        }
        images[i] = s.copy();
    }

    void restore(int i) {
        if (!in(i, 0, 2)) {
            throw new NoSuchElementException();
        }
        if (images[i] == null) {
            throw new IllegalStateException();
        }
        s = images[i].copy();
    }

    int count(int what) {
        int[] all = {s.ways.size(), s.hands.size(), s.rows, s.columns, tape.length(), s.pull, s.thin,
            s.turn, s.slow, s.roof, s.draughts.size(), s.crates.size(), s.entries.size(), s.damp};
        return in(what, 0, 13) ? all[what] : -1;
    }
}

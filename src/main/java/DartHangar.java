import java.util.NoSuchElementException;

/**
 * A hangar for paper darts: sheets folded by ways, flights worked tick by tick in whole numbers,
 * and what they tell of ears, hands and changed folds. ../shared/DOC.md promises what each call does.
 */
public final class DartHangar {
    public static final int NONE = -1;

    private static final int MOST_ROWS = 24;
    private static final int MOST_COLUMNS = 12;
    private static final int LEAST_ROWS = 4;
    private static final int LEAST_COLUMNS = 3;
    private static final int MOST_LAYERS = 32;

    private static final int NOSE_KIND = 0;
    private static final int SIDE_KIND = 1;
    private static final int CORNER_KIND = 2;
    private static final int KINDS = 3;
    private static final int MOST_FOLDS = 11;
    private static final int MOST_N = 12;
    private static final int MOST_TRIED_N = 6;
    private static final int TRIED_FOLDS = KINDS * MOST_TRIED_N;

    private static final int WAYS = 6;
    private static final int HANDS = 5;
    private static final int THROWS = 4;
    private static final int DRAUGHTS = 4;
    private static final int CRATES = 3;
    private static final int ENTRIES = 4;
    private static final int TRAYS = 4;
    private static final int IMAGES = 3;
    private static final int TAPE_BYTES = 400;
    private static final int TRAY_PLACES = 12;

    private static final int LIFT = 0;
    private static final int DRAG = 9;
    private static final int PULL = 18;
    private static final int THIN = 19;
    private static final int TURN = 20;
    private static final int SLOW = 21;
    private static final int ROOF = 22;
    private static final int LAW_NUMBERS = 23;
    private static final int[] FIRST_LAW = {
        0, 10, 20, 30, 40, 45, 40, 25, 10,
        2, 3, 4, 6, 9, 14, 22, 34, 50,
        10, 10, 10, 3, -1};

    private static final int LINE_KINDS = 7;
    private static final int[] LINE_PLACE = {0, 9, 18, 19, 20, 21, 22};
    private static final int[] LINE_MANY = {9, 9, 1, 1, 1, 1, 1};
    private static final int[] LINE_LEAST = {0, 0, 1, 1, 0, 0, 10};
    private static final int[] LINE_MOST = {99, 99, 50, 99, 99, 9, 99};

    private static final int[] SINES = {
        0, 98, 195, 290, 383, 471, 556, 634, 707, 773, 831, 882, 924, 957, 981, 995, 1000};
    /** By how much each SINE is above the one before it. */
    private static final int[] RISES = {98, 97, 95, 93, 88, 85, 78, 73, 66, 58, 51, 42, 33, 24, 14, 5};
    private static final int ROUND = 64;
    private static final int HALF = 32;
    private static final int QUARTER = 16;

    private static final int MOST_EARS = 9;
    private static final int LEAST_SPEED = 10;
    private static final int MOST_SPEED = 999;
    private static final int MOST_SLANT = 16;
    private static final int MOST_CHANCE = 9;
    private static final int MOST_TICKS = 200;
    private static final int MOST_ATTACK = 8;
    private static final int MOST_DRAUGHT = 20;
    private static final int MOST_DAMP = 50;
    private static final int MOST_X = 99999;
    private static final int MOST_Y = 9999;
    private static final int MOST_TRIES = 4;
    private static final int MOST_MENDS = 4;
    private static final int MOST_HOURS = 18;
    private static final int START_Y = 2000;

    private static final int FLYING = 0;
    private static final int LANDED = 1;
    private static final int STOPPED = 2;

    private final Stock now = new Stock();
    private final Stock[] images = new Stock[IMAGES];
    private final Reader reader = new Reader();
    private final Tray[] trays = new Tray[TRAYS];
    private final Paper paper = new Paper();
    private final Paper halfFolded = new Paper();
    private final Flight flight = new Flight(now, paper);
    private final Rows tried = new Rows(MOST_FOLDS);
    private final int[] triedLaw = new int[LAW_NUMBERS];
    private final Change bestChange = new Change();
    private final int[] fars = new int[ENTRIES * THROWS];

    public DartHangar() {
        for (int i = 0; i < TRAYS; i++) {
            trays[i] = new Tray();
        }
    }

    // ---- sheet and ways

    public void sheet(int rows, int columns) throws IllegalArgumentException {
        needWithin(rows, LEAST_ROWS, MOST_ROWS);
        needWithin(columns, LEAST_COLUMNS, MOST_COLUMNS);
        now.rows = rows;
        now.columns = columns;
    }

    public int feed(int a, int b, int c, int d, int e) {
        if (reader.held + 20 > TAPE_BYTES) {
            return NONE;
        }
        reader.append(a);
        reader.append(b);
        reader.append(c);
        reader.append(d);
        reader.append(e);
        return reader.held;
    }

    public int way(int n) throws IllegalArgumentException {
        needWithin(n, 0, reader.held);
        if (now.wayCount >= WAYS) {
            return NONE;
        }
        if (!reader.readWay(n, tried)) {
            return -10 - reader.faultKind;
        }
        return now.addWay(tried);
    }

    public int law(int n) throws IllegalArgumentException {
        needWithin(n, 0, reader.held);
        System.arraycopy(FIRST_LAW, 0, triedLaw, 0, LAW_NUMBERS);
        int lines = reader.readLaw(n, triedLaw);
        if (lines == NONE) {
            return -10 - reader.faultKind;
        }
        System.arraycopy(triedLaw, 0, now.rule, 0, LAW_NUMBERS);
        return lines;
    }

    public int fault(int what) {
        switch (what) {
            case 0: return reader.faultKind;
            case 1: return reader.faultPlace;
            default: return NONE;
        }
    }

    public int fold(int way, int i) throws NoSuchElementException {
        Rows folds = needWay(way);
        return i == NONE ? folds.many : codeOf(folds, i);
    }

    public int breaks(int way) throws NoSuchElementException {
        return breakOf(needWay(way));
    }

    public int make(int way, int what)
            throws NoSuchElementException, IllegalStateException, IllegalArgumentException {
        needMake(needWay(way));
        needWithin(what, 0, 6);
        switch (what) {
            case 0: return paper.rows;
            case 1: return paper.columns;
            case 2: return paper.area;
            case 3: return paper.weight;
            case 4: return paper.front;
            case 5: return paper.wing;
            default: return paper.lever;
        }
    }

    public int layers(int way, int row, int column)
            throws NoSuchElementException, IllegalStateException {
        needMake(needWay(way));
        return paper.layersAt(row, column);
    }

    // ---- flights

    public int fly(int way, int ears, int speed, int slant, int what)
            throws NoSuchElementException, IllegalStateException, IllegalArgumentException {
        needMake(needWay(way));
        needThrow(ears, speed, slant);
        needWithin(what, 0, 5);
        flight.flyOut(ears, speed, slant);
        switch (what) {
            case 0: return flight.x;
            case 1: return flight.ticks;
            case 2: return flight.high;
            case 3: return flight.ending;
            case 4: return flight.loops();
            default: return flight.evenFrom();
        }
    }

    public int at(int way, int ears, int speed, int slant, int ticks, int what)
            throws NoSuchElementException, IllegalStateException, IllegalArgumentException {
        needMake(needWay(way));
        needThrow(ears, speed, slant);
        needWithin(ticks, 0, MOST_TICKS);
        needWithin(what, 0, 5);
        flight.begin(ears, speed, slant);
        for (int i = 0; i < ticks && flight.goesOn(); i++) {
            flight.tick();
        }
        switch (what) {
            case 0: return flight.x;
            case 1: return flight.y;
            case 2: return flight.vx;
            case 3: return flight.vy;
            case 4: return flight.nose;
            default: return flight.spin;
        }
    }

    public int draught(int from, int to, int v) throws IllegalArgumentException {
        needWithin(from, 1, MOST_TICKS);
        needWithin(to, from, MOST_TICKS);
        needWithin(v, -MOST_DRAUGHT, MOST_DRAUGHT);
        return now.draughts.add(from, to, v);
    }

    public int crate(int x, int y) throws IllegalArgumentException {
        needWithin(x, 1, MOST_X);
        needWithin(y, 1, MOST_Y);
        return now.crates.add(x, y, 0);
    }

    public int still() {
        int were = now.draughts.many + now.crates.many;
        now.draughts.many = 0;
        now.crates.many = 0;
        return were;
    }

    public int damp(int v) throws IllegalArgumentException {
        needWithin(v, 0, MOST_DAMP);
        int was = now.dampness;
        now.dampness = v;
        return was;
    }

    public int slant(int way, int ears, int speed, boolean lasts)
            throws NoSuchElementException, IllegalStateException, IllegalArgumentException {
        needMake(needWay(way));
        needEars(ears);
        needWithin(speed, LEAST_SPEED, MOST_SPEED);
        int bestSlant = -MOST_SLANT;
        int most = 0;
        for (int s = -MOST_SLANT; s <= MOST_SLANT; s++) {
            flight.flyOut(ears, speed, s);
            int got = flight.score(lasts);
            if (s == -MOST_SLANT || got > most) {
                most = got;
                bestSlant = s;
            }
        }
        return bestSlant;
    }

    public int rest(int way, int ears, int i)
            throws NoSuchElementException, IllegalStateException, IllegalArgumentException {
        needMake(needWay(way));
        needEars(ears);
        int rests = 0;
        for (int k = -MOST_ATTACK; k <= MOST_ATTACK; k++) {
            if (isRest(ears, k)) {
                if (rests == i) {
                    return k + 100;
                }
                rests++;
            }
        }
        return i == NONE ? rests : NONE;
    }

    public int why(int way, int ears)
            throws NoSuchElementException, IllegalStateException, IllegalArgumentException {
        needMake(needWay(way));
        needEars(ears);
        int below = 0;
        int above = 0;
        for (int k = -MOST_ATTACK; k <= MOST_ATTACK; k++) {
            if (isRest(ears, k)) {
                return 0;
            }
            if (torque(ears, k) < 0) {
                below++;
            } else {
                above++;
            }
        }
        if (above == 0) {
            return 1;
        }
        return below == 0 ? 2 : 3;
    }

    // ---- hands

    public int hand() {
        return now.addHand();
    }

    public int toss(int hand, int speed, int slant, int chance)
            throws NoSuchElementException, IllegalArgumentException {
        Rows throwing = needHand(hand);
        if (!isThrow(speed, slant, chance)) {
            throw new IllegalArgumentException("a number of the THROW");
        }
        return throwing.add(speed, slant, chance) == NONE ? NONE : throwing.many;
    }

    public long reach(int way, int ears, int hand, boolean lasts)
            throws NoSuchElementException, IllegalStateException, IllegalArgumentException {
        Rows folds = needWay(way);
        Rows throwing = needHand(hand);
        needMake(folds);
        needEars(ears);
        return reachOf(throwing, ears, lasts);
    }

    public int ears(int way, int hand, boolean lasts)
            throws NoSuchElementException, IllegalStateException {
        Rows folds = needWay(way);
        Rows throwing = needHand(hand);
        needMake(folds);
        return bestEarsOf(throwing, lasts);
    }

    public int best(int hand, boolean lasts) throws NoSuchElementException {
        Rows throwing = needHand(hand);
        int bestWay = NONE;
        long most = 0;
        for (int i = 0; i < now.wayCount; i++) {
            Rows folds = now.wayAt(i);
            if (folds == null || breakOf(folds) != NONE) {
                continue;
            }
            long got = reachOf(throwing, bestEarsOf(throwing, lasts), lasts);
            if (bestWay == NONE || got > most) {
                bestWay = i;
                most = got;
            }
        }
        return bestWay;
    }

    public long change(int way, int ears, int hand, boolean lasts, int what)
            throws NoSuchElementException, IllegalStateException, IllegalArgumentException {
        Rows folds = needWay(way);
        Rows throwing = needHand(hand);
        needMake(folds);
        needEars(ears);
        needWithin(what, 0, 2);
        findBestChange(folds, throwing, ears, lasts);
        if (bestChange.place == NONE) {
            return NONE;
        }
        switch (what) {
            case 0: return bestChange.place;
            case 1: return 100 * bestChange.kind + bestChange.n;
            default: return bestChange.reached;
        }
    }

    public int mend(int way, int ears, int hand, boolean lasts)
            throws NoSuchElementException, IllegalStateException, IllegalArgumentException {
        Rows folds = needWay(way);
        Rows throwing = needHand(hand);
        needMake(folds);
        needEars(ears);
        long reached = reachOf(throwing, ears, lasts);
        int done = 0;
        while (done < MOST_MENDS) {
            findBestChange(folds, throwing, ears, lasts);
            if (bestChange.place == NONE || bestChange.reached <= reached) {
                break;
            }
            reached = bestChange.reached;
            folds.putFold(bestChange.place, bestChange.kind, bestChange.n);
            done++;
        }
        return done;
    }

    public boolean hoop(int way, int ears, int speed, int slant, int x, int from, int to)
            throws NoSuchElementException, IllegalStateException, IllegalArgumentException {
        needMake(needWay(way));
        needThrow(ears, speed, slant);
        needHoop(x, from, to);
        flight.begin(ears, speed, slant);
        return flight.goesThrough(x, from, to);
    }

    public long odds(int way, int ears, int hand, int n, int x, int from, int to)
            throws NoSuchElementException, IllegalStateException, IllegalArgumentException {
        Rows folds = needWay(way);
        Rows throwing = needHand(hand);
        needMake(folds);
        needEars(ears);
        needWithin(n, 1, MOST_TRIES);
        needHoop(x, from, to);
        long all = 0;
        long missing = 0;
        for (int i = 0; i < throwing.many; i++) {
            int chance = throwing.get(i, 2);
            all += chance;
            flight.begin(ears, throwing.get(i, 0), throwing.get(i, 1));
            if (!flight.goesThrough(x, from, to)) {
                missing += chance;
            }
        }
        return power(all, n) - power(missing, n);
    }

    public int enter(int way, int ears, int hand)
            throws NoSuchElementException, IllegalArgumentException {
        needWay(way);
        needHand(hand);
        needEars(ears);
        return now.entries.add(way, ears, hand);
    }

    public long wins(int entry) throws NoSuchElementException {
        if (entry < 0 || entry >= now.entries.many) {
            throw new NoSuchElementException("no such ENTRY");
        }
        if (!allEntriesThrow()) {
            return 0;
        }
        Rows throwing = now.handAt(now.entries.get(entry, 2));
        if (throwing == null) {
            return 0;
        }
        long won = 0;
        for (int i = 0; i < throwing.many; i++) {
            won += throwing.get(i, 2) * rowsBelow(entry, farOf(entry, i));
        }
        return won;
    }

    public int hours(int way, int ears, int hand, boolean lasts, long limit)
            throws NoSuchElementException, IllegalStateException, IllegalArgumentException {
        Rows folds = needWay(way);
        Rows throwing = needHand(hand);
        needMake(folds);
        needEars(ears);
        // An odd hour leaves EARS as the hour before it: the least one is never odd.
        for (int h = 0; h <= MOST_HOURS; h += 2) {
            int left = Math.max(Math.abs(ears) - h / 2, 0);
            if (reachOf(throwing, ears < 0 ? -left : left, lasts) < limit) {
                return h;
            }
        }
        return NONE;
    }

    public int seen(int way, int speed, int slant, int far, int lasted)
            throws NoSuchElementException, IllegalStateException, IllegalArgumentException {
        needMake(needWay(way));
        needWithin(speed, LEAST_SPEED, MOST_SPEED);
        needWithin(slant, -MOST_SLANT, MOST_SLANT);
        int set = 0;
        for (int e = -MOST_EARS; e <= MOST_EARS; e++) {
            flight.flyOut(e, speed, slant);
            if (flight.x == far && flight.ticks == lasted) {
                set |= 1 << (e + MOST_EARS);
            }
        }
        return set;
    }

    public int found(int area, int front, int i) {
        if (!findNoFold(area, front) && !findOneFold(area, front) && !findTwoFolds(area, front)) {
            return NONE;
        }
        return i == NONE ? tried.many : codeOf(tried, i);
    }

    // ---- trays, images

    public void tray(int tray, int sort, int many)
            throws NoSuchElementException, IllegalArgumentException {
        Tray row = needTray(tray);
        needWithin(sort, 0, 3);
        needWithin(many, 0, TRAY_PLACES);
        row.lay(sort, many);
    }

    public long write(int tray, int place, long v)
            throws NoSuchElementException, IllegalStateException, IndexOutOfBoundsException {
        Tray row = needTray(tray);
        needThere(row);
        if (place < 0 || place >= row.many) {
            throw new IndexOutOfBoundsException("no such place");
        }
        return row.put(place, v);
    }

    public int take(int tray, int hand)
            throws NoSuchElementException, IllegalStateException, IndexOutOfBoundsException,
            IllegalArgumentException {
        Tray row = needTray(tray);
        Rows throwing = needHand(hand);
        needThere(row);
        if (row.many % 3 != 0) {
            throw new IndexOutOfBoundsException("the TRAY ends within a THROW");
        }
        for (int i = 0; i < row.many; i += 3) {
            if (!isThrow(row.get(i), row.get(i + 1), row.get(i + 2))) {
                throw new IllegalArgumentException("a number of a THROW");
            }
        }
        throwing.many = 0;
        for (int i = 0; i < row.many; i += 3) {
            throwing.add((int) row.get(i), (int) row.get(i + 1), (int) row.get(i + 2));
        }
        return throwing.many;
    }

    public void image(int i) throws NoSuchElementException {
        needImageNumber(i);
        Stock kept = images[i];
        if (kept == null) {
            kept = new Stock();
            images[i] = kept;
        }
        kept.copyFrom(now);
    }

    public void restore(int i) throws NoSuchElementException, IllegalStateException {
        needImageNumber(i);
        Stock kept = images[i];
        if (kept == null) {
            throw new IllegalStateException("no IMAGE was made");
        }
        now.copyFrom(kept);
    }

    public int count(int what) {
        switch (what) {
            case 0: return now.wayCount;
            case 1: return now.handCount;
            case 2: return now.rows;
            case 3: return now.columns;
            case 4: return reader.held;
            case 5: return now.rule[PULL];
            case 6: return now.rule[THIN];
            case 7: return now.rule[TURN];
            case 8: return now.rule[SLOW];
            case 9: return now.rule[ROOF];
            case 10: return now.draughts.many;
            case 11: return now.crates.many;
            case 12: return now.entries.many;
            case 13: return now.dampness;
            default: return NONE;
        }
    }

    // ---- what the calls need

    private static void needWithin(int number, int least, int most) {
        if (number < least || number > most) {
            throw new IllegalArgumentException("a number is out of its bounds");
        }
    }

    private static void needEars(int ears) {
        needWithin(ears, -MOST_EARS, MOST_EARS);
    }

    private static void needThrow(int ears, int speed, int slant) {
        needEars(ears);
        needWithin(speed, LEAST_SPEED, MOST_SPEED);
        needWithin(slant, -MOST_SLANT, MOST_SLANT);
    }

    private static void needHoop(int x, int from, int to) {
        needWithin(x, 1, MOST_X);
        needWithin(from, 0, MOST_Y);
        needWithin(to, from, MOST_Y);
    }

    private Rows needWay(int way) {
        Rows folds = now.wayAt(way);
        if (folds == null) {
            throw new NoSuchElementException("no such WAY");
        }
        return folds;
    }

    private Rows needHand(int hand) {
        Rows throwing = now.handAt(hand);
        if (throwing == null) {
            throw new NoSuchElementException("no such HAND");
        }
        return throwing;
    }

    /** The paper is the MAKE then. */
    private void needMake(Rows folds) {
        if (breakOf(folds) != NONE) {
            throw new IllegalStateException("the WAY has no MAKE");
        }
    }

    private Tray needTray(int tray) {
        Tray row = tray >= 0 && tray < TRAYS ? trays[tray] : null;
        if (row == null) {
            throw new NoSuchElementException("no such TRAY");
        }
        return row;
    }

    private static void needThere(Tray row) {
        if (row.sort == NONE) {
            throw new IllegalStateException("the TRAY is MISSING");
        }
    }

    private static void needImageNumber(int i) {
        if (i < 0 || i >= IMAGES) {
            throw new NoSuchElementException("no such IMAGE");
        }
    }

    // ---- folds and makes

    private static int codeOf(Rows folds, int i) {
        if (i < 0 || i >= folds.many) {
            return NONE;
        }
        return 100 * folds.get(i, 0) + folds.get(i, 1);
    }

    /** Folds the paper: the number of the first FOLD that can't be, or NONE. */
    private int breakOf(Rows folds) {
        return paper.foldAll(folds, now.rows, now.columns);
    }

    private boolean findNoFold(int area, int front) {
        tried.many = 0;
        breakOf(tried);
        return paper.isLike(area, front);
    }

    private boolean findOneFold(int area, int front) {
        for (int f = 0; f < TRIED_FOLDS; f++) {
            tryFirst(f);
            if (breakOf(tried) == NONE && paper.isLike(area, front)) {
                return true;
            }
        }
        return false;
    }

    private boolean findTwoFolds(int area, int front) {
        for (int f = 0; f < TRIED_FOLDS; f++) {
            tryFirst(f);
            if (breakOf(tried) == NONE && findSecond(area, front)) {
                return true;
            }
        }
        return false;
    }

    private void tryFirst(int f) {
        tried.many = 0;
        tried.add(triedKind(f), triedN(f), 0);
    }

    private boolean findSecond(int area, int front) {
        halfFolded.copyFrom(paper);
        for (int f = 0; f < TRIED_FOLDS; f++) {
            paper.copyFrom(halfFolded);
            if (paper.foldOnce(triedKind(f), triedN(f))) {
                paper.weigh();
                if (paper.isLike(area, front)) {
                    tried.add(triedKind(f), triedN(f), 0);
                    return true;
                }
            }
        }
        return false;
    }

    private static int triedKind(int f) {
        return f / MOST_TRIED_N;
    }

    private static int triedN(int f) {
        return f % MOST_TRIED_N + 1;
    }

    // ---- rests

    private boolean isRest(int ears, int attack) {
        int here = torque(ears, attack);
        return here == 0 || here > 0 && attack < MOST_ATTACK && torque(ears, attack + 1) < 0;
    }

    private int torque(int ears, int attack) {
        int lifts = now.rule[LIFT + Math.min(Math.abs(attack), MOST_ATTACK)];
        int signed = attack < 0 ? -lifts : lifts;
        return ears * paper.dampWeight(now.dampness) * now.rule[THIN]
            - paper.lever * paper.area * signed;
    }

    // ---- reaches

    private static boolean isThrow(long speed, long slant, long chance) {
        return speed >= LEAST_SPEED && speed <= MOST_SPEED
            && slant >= -MOST_SLANT && slant <= MOST_SLANT
            && chance >= 1 && chance <= MOST_CHANCE;
    }

    private long reachOf(Rows throwing, int ears, boolean lasts) {
        long sum = 0;
        for (int i = 0; i < throwing.many; i++) {
            flight.flyOut(ears, throwing.get(i, 0), throwing.get(i, 1));
            sum += throwing.get(i, 2) * flight.score(lasts);
        }
        return sum;
    }

    private int bestEarsOf(Rows throwing, boolean lasts) {
        int bestEars = 0;
        long most = reachOf(throwing, 0, lasts);
        for (int i = 1; i <= MOST_EARS; i++) {
            long down = reachOf(throwing, -i, lasts);
            if (down > most) {
                most = down;
                bestEars = -i;
            }
            long up = reachOf(throwing, i, lasts);
            if (up > most) {
                most = up;
                bestEars = i;
            }
        }
        return bestEars;
    }

    private void findBestChange(Rows folds, Rows throwing, int ears, boolean lasts) {
        bestChange.place = NONE;
        tried.copyFrom(folds);
        for (int i = 0; i < folds.many; i++) {
            int kind = folds.get(i, 0);
            int n = folds.get(i, 1);
            for (int f = 0; f < TRIED_FOLDS; f++) {
                if (triedKind(f) == kind && triedN(f) == n) {
                    continue;
                }
                tried.putFold(i, triedKind(f), triedN(f));
                if (breakOf(tried) == NONE) {
                    bestChange.offer(i, f, reachOf(throwing, ears, lasts));
                }
            }
            tried.putFold(i, kind, n);
        }
    }

    private static long power(long base, int n) {
        long product = 1;
        for (int i = 0; i < n; i++) {
            product *= base;
        }
        return product;
    }

    // ---- contests

    /** Whether each ENTRY has a MAKE and THROWS; the FAR of each THROW is noted then. */
    private boolean allEntriesThrow() {
        for (int e = 0; e < now.entries.many; e++) {
            Rows folds = now.wayAt(now.entries.get(e, 0));
            Rows throwing = now.handAt(now.entries.get(e, 2));
            if (folds == null || throwing == null || throwing.many == 0
                    || breakOf(folds) != NONE) {
                return false;
            }
            int ears = now.entries.get(e, 1);
            for (int i = 0; i < throwing.many && i < THROWS && e < ENTRIES; i++) {
                flight.flyOut(ears, throwing.get(i, 0), throwing.get(i, 1));
                fars[e * THROWS + i] = flight.x;
            }
        }
        return true;
    }

    private int farOf(int entry, int i) {
        int place = entry * THROWS + i;
        return place >= 0 && place < fars.length ? fars[place] : 0;
    }

    /** Rows of THROWS of the other ENTRIES that all stay below a FAR. */
    private long rowsBelow(int entry, int far) {
        long product = 1;
        for (int e = 0; e < now.entries.many; e++) {
            if (e != entry) {
                product *= chancesBelow(e, far);
            }
        }
        return product;
    }

    private int chancesBelow(int entry, int far) {
        Rows throwing = now.handAt(now.entries.get(entry, 2));
        if (throwing == null) {
            return 0;
        }
        int chances = 0;
        for (int i = 0; i < throwing.many; i++) {
            if (farOf(entry, i) < far) {
                chances += throwing.get(i, 2);
            }
        }
        return chances;
    }

    // ---- directions

    private static int sine(int direction) {
        int d = direction & (ROUND - 1);
        int within = d & (HALF - 1);
        int size = SINES[within <= QUARTER ? within : HALF - within];
        return d < HALF ? size : -size;
    }

    private static int cosine(int direction) {
        return sine(direction + QUARTER);
    }

    /**
     * Of 0 to 16 the first with the greatest ax COS + ay SIN, for ax, ay of 0 or more. What a step
     * further adds falls from step to step, for the RISES do: so it can be sought by halves.
     */
    private static int steepness(int ax, int ay) {
        int low = 0;
        int high = QUARTER;
        for (int i = 0; i < QUARTER && low < high; i++) {
            int middle = (low + high) / 2;
            if (ay * RISES[middle] > ax * RISES[QUARTER - 1 - middle]) {
                low = middle + 1;
            } else {
                high = middle;
            }
        }
        return low;
    }

    private static int pathOf(int vx, int vy) {
        int ax = Math.abs(vx);
        int ay = Math.abs(vy);
        int k = steepness(ax, ay);
        if (vx >= 0 && vy >= 0) {
            return k;
        }
        if (vx < 0 && vy < 0) {
            return HALF + k;
        }
        if (vx >= 0 && k == 0) {
            return 0;
        }
        // In the two mirrored quarters the later one of like steps is the lesser direction.
        if (k < QUARTER && ay * RISES[k] == ax * RISES[QUARTER - 1 - k]) {
            k++;
        }
        return vx < 0 ? HALF - k : ROUND - k;
    }

    private static int attackOf(int nose, int path) {
        int attack = nose / 16 - path;
        if (attack < -HALF) {
            attack += ROUND;
        } else if (attack >= HALF) {
            attack -= ROUND;
        }
        return keptWithin(attack, MOST_ATTACK);
    }

    private static int keptWithin(long number, int bound) {
        return (int) Math.max(-bound, Math.min(bound, number));
    }

    /** Numbered rows of three numbers each: FOLDS, THROWS, DRAUGHTS, CRATES, ENTRIES. */
    private static final class Rows {
        private static final int WIDTH = 3;

        private final int[] numbers = new int[MOST_FOLDS * WIDTH];
        private final int limit;
        private int many;

        Rows(int limit) {
            this.limit = Math.min(limit, MOST_FOLDS);
        }

        /** The number of the new row; NONE if there are as many as may be. */
        int add(int a, int b, int c) {
            if (many >= limit) {
                return NONE;
            }
            int row = many;
            many = row + 1;
            put(row, 0, a);
            put(row, 1, b);
            put(row, 2, c);
            return row;
        }

        int get(int row, int column) {
            int place = row * WIDTH + column;
            return place >= 0 && place < numbers.length ? numbers[place] : 0;
        }

        private void put(int row, int column, int number) {
            int place = row * WIDTH + column;
            if (place >= 0 && place < numbers.length) {
                numbers[place] = number;
            }
        }

        void putFold(int row, int kind, int n) {
            put(row, 0, kind);
            put(row, 1, n);
        }

        void copyFrom(Rows other) {
            System.arraycopy(other.numbers, 0, numbers, 0, MOST_FOLDS * WIDTH);
            many = Math.min(other.many, limit);
        }
    }

    /** All that an IMAGE keeps. */
    private static final class Stock {
        private int rows = 8;
        private int columns = 6;
        private int dampness;
        private final int[] rule = new int[LAW_NUMBERS];
        private final Rows[] ways = new Rows[WAYS];
        private int wayCount;
        private final Rows[] hands = new Rows[HANDS];
        private int handCount;
        private final Rows draughts = new Rows(DRAUGHTS);
        private final Rows crates = new Rows(CRATES);
        private final Rows entries = new Rows(ENTRIES);

        Stock() {
            System.arraycopy(FIRST_LAW, 0, rule, 0, LAW_NUMBERS);
            for (int i = 0; i < WAYS; i++) {
                ways[i] = new Rows(MOST_FOLDS);
            }
            for (int i = 0; i < HANDS; i++) {
                hands[i] = new Rows(THROWS);
            }
        }

        Rows wayAt(int i) {
            return i >= 0 && i < wayCount && i < WAYS ? ways[i] : null;
        }

        Rows handAt(int i) {
            return i >= 0 && i < handCount && i < HANDS ? hands[i] : null;
        }

        int addWay(Rows folds) {
            int number = wayCount;
            if (number < 0 || number >= WAYS) {
                return NONE;
            }
            ways[number].copyFrom(folds);
            wayCount = number + 1;
            return number;
        }

        int addHand() {
            int number = handCount;
            if (number < 0 || number >= HANDS) {
                return NONE;
            }
            hands[number].many = 0;
            handCount = number + 1;
            return number;
        }

        void copyFrom(Stock other) {
            rows = other.rows;
            columns = other.columns;
            dampness = other.dampness;
            System.arraycopy(other.rule, 0, rule, 0, LAW_NUMBERS);
            for (int i = 0; i < WAYS; i++) {
                ways[i].copyFrom(other.ways[i]);
            }
            wayCount = other.wayCount;
            for (int i = 0; i < HANDS; i++) {
                hands[i].copyFrom(other.hands[i]);
            }
            handCount = other.handCount;
            draughts.copyFrom(other.draughts);
            crates.copyFrom(other.crates);
            entries.copyFrom(other.entries);
        }
    }

    /** One half of a sheet while it is folded, and what is measured of it. */
    private static final class Paper {
        private final int[] cells = new int[MOST_ROWS * MOST_COLUMNS];
        /** Rows that nose FOLDS took away: they stay in the cells, ahead of ROW 0. */
        private int gone;
        private int rows;
        private int columns;
        private int area;
        private int weight;
        private int front;
        private int wing;
        private int lever;

        /** The number of the first FOLD that can't be (nothing is measured then), or NONE. */
        int foldAll(Rows folds, int fromRows, int fromColumns) {
            spread(fromRows, fromColumns);
            for (int i = 0; i < folds.many; i++) {
                if (!foldOnce(folds.get(i, 0), folds.get(i, 1))) {
                    return i;
                }
            }
            weigh();
            return NONE;
        }

        private void spread(int toRows, int toColumns) {
            gone = 0;
            rows = toRows;
            columns = toColumns;
            for (int i = 0; i < cells.length; i++) {
                cells[i] = 1;
            }
        }

        /** Whether the FOLD can be; the cells are of no use any more if it can't. */
        boolean foldOnce(int kind, int n) {
            switch (kind) {
                case NOSE_KIND: return foldNose(n);
                case SIDE_KIND: return foldSide(n);
                case CORNER_KIND: return foldCorner(n);
                default: return false;
            }
        }

        private boolean foldNose(int n) {
            if (n < 1 || n > rows / 2) {
                return false;
            }
            for (int k = 0; k < n; k++) {
                for (int c = 0; c < columns; c++) {
                    if (!lay(placeOf(k, c), placeOf(2 * n - 1 - k, c))) {
                        return false;
                    }
                }
            }
            gone += n;
            rows -= n;
            return true;
        }

        private boolean foldSide(int n) {
            if (n < 1 || n > columns / 2) {
                return false;
            }
            for (int k = 0; k < n; k++) {
                for (int r = 0; r < rows; r++) {
                    if (!lay(placeOf(r, columns - 1 - k), placeOf(r, columns - 2 * n + k))) {
                        return false;
                    }
                }
            }
            columns -= n;
            return true;
        }

        private boolean foldCorner(int n) {
            if (n < 2 || n > rows || n > columns) {
                return false;
            }
            int outermost = columns - 1;
            for (int r = 0; r < n - 1; r++) {
                for (int d = 0; r + d < n - 1; d++) {
                    if (!lay(placeOf(r, outermost - d),
                            placeOf(n - 1 - d, outermost - (n - 1 - r)))) {
                        return false;
                    }
                }
            }
            return true;
        }

        private int placeOf(int row, int column) {
            return (gone + row) * MOST_COLUMNS + column;
        }

        /** Lays one CELL onto another: whether that has not too many LAYERS then. */
        private boolean lay(int from, int to) {
            if (from < 0 || from >= cells.length || to < 0 || to >= cells.length) {
                return false;
            }
            cells[to] += cells[from];
            cells[from] = 0;
            return cells[to] <= MOST_LAYERS;
        }

        int layersAt(int row, int column) {
            if (row < 0 || row >= rows || column < 0 || column >= columns) {
                return NONE;
            }
            int place = placeOf(row, column);
            return place >= 0 && place < cells.length ? cells[place] : NONE;
        }

        void weigh() {
            area = 0;
            weight = 0;
            front = 0;
            wing = 0;
            for (int r = 0; r < rows; r++) {
                int arm = 2 * r + 1;
                for (int c = 0; c < columns; c++) {
                    int here = layersAt(r, c);
                    if (here > 0) {
                        area++;
                        weight += here;
                        front += here * arm;
                        wing += arm;
                    }
                }
            }
            int both = area * weight;
            lever = both > 0 ? 10 * (wing * weight - front * area) / both : 0;
        }

        boolean isLike(int wantedArea, int wantedFront) {
            return area == wantedArea && front == wantedFront;
        }

        int dampWeight(int dampness) {
            return weight + weight * dampness / 100;
        }

        void copyFrom(Paper other) {
            System.arraycopy(other.cells, 0, cells, 0, MOST_ROWS * MOST_COLUMNS);
            gone = other.gone;
            rows = other.rows;
            columns = other.columns;
        }
    }

    /** A FLIGHT of the MAKE that the paper is, in the air of a stock. */
    private static final class Flight {
        private final Stock stock;
        private final Paper paper;
        private int ears;
        private long load;
        private int x;
        private int y;
        private int vx;
        private int vy;
        private int nose;
        private int spin;
        private int lastX;
        private int ticks;
        private int high;
        private int turned;
        private int lastUneven;
        private int ending;

        Flight(Stock stock, Paper paper) {
            this.stock = stock;
            this.paper = paper;
        }

        void begin(int withEars, int speed, int slant) {
            int direction = slant & (ROUND - 1);
            ears = withEars;
            load = paper.dampWeight(stock.dampness) * stock.rule[THIN];
            x = 0;
            y = START_Y;
            vx = speed * cosine(direction) / 1000;
            vy = speed * sine(direction) / 1000;
            nose = 16 * direction;
            spin = 0;
            lastX = 0;
            ticks = 0;
            high = START_Y;
            turned = 0;
            lastUneven = 0;
            ending = FLYING;
        }

        boolean goesOn() {
            return ending == FLYING && ticks < MOST_TICKS;
        }

        void flyOut(int withEars, int speed, int slant) {
            begin(withEars, speed, slant);
            for (int i = 0; i < MOST_TICKS && goesOn(); i++) {
                tick();
            }
        }

        /** What a FLIGHT is judged by: LONG, if it is to last, or FAR. */
        int score(boolean lasts) {
            return lasts ? ticks : x;
        }

        /** Flies on to the HOOP or to the end. */
        boolean goesThrough(int hoopX, int from, int to) {
            for (int i = 0; i < MOST_TICKS && goesOn(); i++) {
                tick();
                if (lastX < hoopX && x >= hoopX && y >= from && y <= to) {
                    return true;
                }
            }
            return false;
        }

        void tick() {
            int path = pathOf(vx, vy);
            int attack = attackOf(nose, path);
            int bend = Math.abs(attack);
            long q = (vx * vx + vy * vy) / 1000;
            long lift = force(stock.rule[LIFT + bend], q);
            if (attack < 0) {
                lift = -lift;
            }
            long drag = force(stock.rule[DRAG + bend], q);
            ticks++;
            turnNose((ears * q - paper.lever * lift) * stock.rule[TURN] / 1000);
            int sin = sine(path);
            int cos = cosine(path);
            vx = keptWithin(vx + (-drag * cos - lift * sin) / 1000, 2000);
            vy = keptWithin(vy + (-drag * sin + lift * cos) / 1000 - pullNow(), 2000);
            move();
            noteEnd();
        }

        private long force(int number, long q) {
            return load > 0 ? number * q * paper.area / load : 0;
        }

        private void turnNose(long push) {
            long turning = spin + push;
            turning -= turning * stock.rule[SLOW] / 10;
            spin = keptWithin(turning, 200);
            nose = (nose + spin) & 1023;
            turned += spin;
            if (spin < -2 || spin > 2) {
                lastUneven = ticks;
            }
        }

        private int pullNow() {
            int pull = stock.rule[PULL];
            for (int i = 0; i < stock.draughts.many; i++) {
                if (stock.draughts.get(i, 0) <= ticks && ticks <= stock.draughts.get(i, 1)) {
                    pull -= stock.draughts.get(i, 2);
                }
            }
            return pull;
        }

        private void move() {
            lastX = x;
            x += vx;
            y += vy;
            int roof = stock.rule[ROOF];
            if (roof != NONE && y > 100 * roof) {
                y = 100 * roof;
                vy = -vy / 2;
            }
            high = Math.max(high, y);
        }

        private void noteEnd() {
            int stop = NONE;
            for (int i = 0; i < stock.crates.many; i++) {
                int crateX = stock.crates.get(i, 0);
                if (lastX < crateX && x >= crateX && y <= stock.crates.get(i, 1)
                        && (stop == NONE || crateX < stop)) {
                    stop = crateX;
                }
            }
            if (stop != NONE) {
                x = stop;
                ending = STOPPED;
            } else if (y <= 0) {
                ending = LANDED;
            }
        }

        int loops() {
            return Math.abs(turned) / 1024;
        }

        int evenFrom() {
            return ticks - lastUneven >= 20 ? lastUneven + 1 : NONE;
        }
    }

    /** The best CHANGE so far; its place is NONE as long as there is none. */
    private static final class Change {
        private int place = NONE;
        private int kind;
        private int n;
        private long reached;

        void offer(int atPlace, int f, long reach) {
            if (place == NONE || reach > reached) {
                place = atPlace;
                kind = triedKind(f);
                n = triedN(f);
                reached = reach;
            }
        }
    }

    /** A row of numbers of one sort; its sort is NONE as long as it is MISSING. */
    private static final class Tray {
        private final long[] numbers = new long[TRAY_PLACES];
        private int sort = NONE;
        private int many;

        void lay(int ofSort, int howMany) {
            sort = ofSort;
            many = howMany;
            for (int i = 0; i < TRAY_PLACES; i++) {
                numbers[i] = 0;
            }
        }

        long get(int place) {
            return place >= 0 && place < TRAY_PLACES ? numbers[place] : 0;
        }

        long put(int place, long number) {
            long kept = cut(number);
            if (place >= 0 && place < TRAY_PLACES) {
                numbers[place] = kept;
            }
            return kept;
        }

        private long cut(long number) {
            switch (sort) {
                case 0: return (byte) number;
                case 1: return (short) number;
                case 2: return (int) number;
                default: return number;
            }
        }
    }

    /** The tape, and what is read of it: TOKENS, WAYS, LAWS, and the FAULT of the latest reading. */
    private static final class Reader {
        private static final int END = 0;
        private static final int WORD = 1;
        private static final int NUMBER = 2;
        private static final int STOP = 3;
        private static final int BAD = 4;

        private static final int NO_TOKEN = 1;
        private static final int MISPLACED = 2;
        private static final int OUT_OF_BOUNDS = 3;
        private static final int TOO_MANY = 4;

        private final int[] tape = new int[TAPE_BYTES];
        private int held;
        private int length;
        private int next;
        private int token;
        private int start;
        private int value;
        private int faultKind;
        private int faultPlace = NONE;

        void append(int four) {
            for (int shift = 24; shift >= 0 && held < TAPE_BYTES; shift -= 8) {
                tape[held] = four >> shift & 255;
                held++;
            }
        }

        /** Whether the first n bytes, which leave the tape, are a WAY: its FOLDS are in the row then. */
        boolean readWay(int n, Rows folds) {
            begin(n);
            folds.many = 0;
            for (int i = 0; i <= TAPE_BYTES && faultKind == 0 && token != END; i++) {
                readFold(folds);
            }
            return faultKind == 0;
        }

        private void readFold(Rows folds) {
            int kind = kindOfWord();
            if (kind == NONE) {
                refuse();
                return;
            }
            if (folds.many >= MOST_FOLDS) {
                fail(TOO_MANY);
                return;
            }
            advance();
            int n = readNumber(1, MOST_N);
            readStop();
            if (faultKind == 0) {
                folds.add(kind, n, 0);
            }
        }

        /** How many LINES the first n bytes, which leave the tape, have; NONE for a FAULT. */
        int readLaw(int n, int[] law) {
            begin(n);
            int lines = 0;
            for (int i = 0; i <= TAPE_BYTES && faultKind == 0 && token != END; i++) {
                readLine(law);
                lines++;
            }
            return faultKind == 0 ? lines : NONE;
        }

        private void readLine(int[] law) {
            int line = lineOfWord();
            if (line < 0 || line >= LINE_KINDS) {
                refuse();
                return;
            }
            advance();
            for (int i = 0; i < LINE_MANY[line] && faultKind == 0; i++) {
                int place = LINE_PLACE[line] + i;
                int number = readNumber(LINE_LEAST[line], LINE_MOST[line]);
                if (place < law.length) {
                    law[place] = number;
                }
            }
            readStop();
        }

        private void begin(int n) {
            length = Math.min(n, held);
            held = 0;
            next = 0;
            faultKind = 0;
            faultPlace = NONE;
            advance();
        }

        private int readNumber(int least, int most) {
            if (faultKind != 0) {
                return 0;
            }
            if (token != NUMBER) {
                refuse();
                return 0;
            }
            if (value < least || value > most) {
                fail(OUT_OF_BOUNDS);
                return 0;
            }
            int number = value;
            advance();
            return number;
        }

        private void readStop() {
            if (faultKind != 0) {
                return;
            }
            if (token == STOP) {
                advance();
            } else {
                refuse();
            }
        }

        private void refuse() {
            fail(token == BAD ? NO_TOKEN : MISPLACED);
        }

        private void fail(int kind) {
            faultKind = kind;
            faultPlace = start;
        }

        private int kindOfWord() {
            for (int kind = 0; kind < KINDS; kind++) {
                if (isWord(foldWord(kind))) {
                    return kind;
                }
            }
            return NONE;
        }

        private int lineOfWord() {
            for (int line = 0; line < LINE_KINDS; line++) {
                if (isWord(lineWord(line))) {
                    return line;
                }
            }
            return NONE;
        }

        private static String foldWord(int kind) {
            switch (kind) {
                case NOSE_KIND: return "nose";
                case SIDE_KIND: return "side";
                default: return "corner";
            }
        }

        private static String lineWord(int line) {
            switch (line) {
                case 0: return "lift";
                case 1: return "drag";
                case 2: return "pull";
                case 3: return "thin";
                case 4: return "turn";
                case 5: return "slow";
                default: return "roof";
            }
        }

        private boolean isWord(String word) {
            if (token != WORD || next - start != word.length()) {
                return false;
            }
            for (int i = 0; i < word.length(); i++) {
                if (byteAt(start + i) != word.charAt(i)) {
                    return false;
                }
            }
            return true;
        }

        private int byteAt(int place) {
            return place >= 0 && place < length && place < TAPE_BYTES ? tape[place] : NONE;
        }

        private void advance() {
            int i = next;
            while (i < length && isBlank(byteAt(i))) {
                i++;
            }
            start = i;
            int first = byteAt(i);
            if (first == NONE) {
                token = END;
            } else if (first == ';') {
                token = STOP;
                i++;
            } else if (isLetter(first)) {
                token = WORD;
                while (i < length && isLetter(byteAt(i))) {
                    i++;
                }
            } else if (isDigit(first)) {
                i = advanceDigits(i);
            } else {
                token = BAD;
            }
            next = i;
        }

        private int advanceDigits(int from) {
            int i = from;
            value = 0;
            while (i < length && isDigit(byteAt(i))) {
                value = 10 * value + byteAt(i) - '0';
                i++;
            }
            token = i - from <= 2 ? NUMBER : BAD;
            return i;
        }

        private static boolean isBlank(int b) {
            return b == 10 || b == 32;
        }

        private static boolean isLetter(int b) {
            return b >= 'a' && b <= 'z';
        }

        private static boolean isDigit(int b) {
            return b >= '0' && b <= '9';
        }
    }
}

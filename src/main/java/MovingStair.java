import java.util.Arrays;

/**
 * A way of parts that move or stand still, told as a text, and what walkers, counts, crowds,
 * bands and streams make of it. The promises stand in shared/DOC.md; README.md tells how to use it.
 */
public final class MovingStair {
    public static final int NONE = -1;

    private static final int NO_SUCH = -2;
    private static final int SIZE_BELOW_ZERO = -3;
    private static final int FAULTY = -4;
    private static final int ACTS_FORBID = -5;
    private static final int NOTHING = -6;
    private static final int BEYOND = -7;
    private static final int OTHER_WIDTH = -8;
    private static final int NO_SUCH_PART = -1000;
    private static final int NO_MORE_SETTING = -1005;

    private static final int TAPE_BYTES = 900;
    private static final int FED_BYTES = 20;
    private static final int MOST_PARTS = 4;
    private static final int MOST_WALKERS = 8;
    private static final int MOST_BANDS = 4;
    private static final int MOST_ACTS = 60;
    private static final int MOST_NUMBERS = 60;
    private static final int SLOTS = 4;
    private static final int IMAGES = 3;
    private static final int TOP_SPEED = 30;
    private static final int LONGEST_CHANGE = 60;
    private static final int LATEST_TRAIN = 600;
    private static final int MILLION = 1000000;

    private int taped = 0;
    private int faultKind = 0;
    private int faultPlace = NONE;
    private final Layout now = new Layout();
    private final Layout[] images = new Layout[IMAGES];
    private final boolean[] imaged = new boolean[IMAGES];
    private final Slot[] slots = new Slot[SLOTS];
    private final Reader reader = new Reader();
    private final Travel travel = new Travel();
    private final Counts counts = new Counts();
    private final Queue queue = new Queue();
    private final Turning turning = new Turning();
    private final Fraction told = new Fraction();
    private final Fraction compared = new Fraction();

    public MovingStair() {
        for (int i = 0; i < IMAGES; i++) {
            images[i] = new Layout();
        }
        for (int i = 0; i < SLOTS; i++) {
            slots[i] = new Slot();
        }
    }

    // ---- the TAPE and the STAIR ----

    public int feed(int a, int b, int c, int d, int e) {
        if (taped + FED_BYTES > TAPE_BYTES) {
            return NONE;
        }
        putBytes(a);
        putBytes(b);
        putBytes(c);
        putBytes(d);
        putBytes(e);
        return taped;
    }

    private void putBytes(int four) {
        for (int shift = 24; shift >= 0 && taped < TAPE_BYTES; shift -= 8) {
            reader.tape[taped] = (byte) (four >> shift);
            taped++;
        }
    }

    public int end(int n) {
        if (n < 0 || n > taped) {
            return NONE;
        }
        taped = n;
        return n;
    }

    public int stair() {
        reader.read(taped);
        // The TAPE is used up by a faulty text too; "all stays" is read of the STAIR and its acts.
        taped = 0;
        faultKind = reader.fault;
        faultPlace = reader.place;
        if (faultKind != 0) {
            return FAULTY;
        }
        now.copyFrom(reader.fresh);
        return now.lines;
    }

    public int fault(int what) {
        if (what == 0) {
            return faultKind;
        }
        return what == 1 ? faultPlace : NONE;
    }

    public int part(int part, int what) {
        if (!now.hasPart(part) || !isSide(what)) {
            return NO_SUCH_PART;
        }
        return what == 0 ? now.steps[part] : now.speeds[part];
    }

    public int walker(int walker) {
        return now.hasWalker(walker) ? now.paces[walker] : NO_SUCH;
    }

    // ---- times and places ----

    public long time(int walker, int what) {
        if (!now.hasWalker(walker) || !isSide(what)) {
            return NO_SUCH;
        }
        return travel.crosses(now, now.paces[walker], 0) ? travel.sum.side(what) : NONE;
    }

    public long spends(int walker, int part, int what) {
        if (!now.hasWalker(walker) || !now.hasPart(part) || !isSide(what)) {
            return NO_SUCH;
        }
        int rate = now.paces[walker] + now.speeds[part];
        if (rate <= 0) {
            return NONE;
        }
        told.put(now.steps[part], rate);
        return told.side(what);
    }

    public long steps(int walker, int what) {
        if (!now.hasWalker(walker) || !isSide(what)) {
            return NO_SUCH;
        }
        int pace = now.paces[walker];
        if (!travel.crosses(now, pace, 0)) {
            return NONE;
        }
        told.put(travel.sum.above * pace, travel.sum.below);
        return told.side(what);
    }

    public int at(int walker, int seconds) {
        if (!now.hasWalker(walker) || isOut(seconds, 0, 36000)) {
            return NO_SUCH;
        }
        return travel.stepsAfter(now, now.paces[walker], seconds);
    }

    public int on(int walker, int seconds) {
        if (!now.hasWalker(walker) || isOut(seconds, 0, 36000)) {
            return NO_SUCH;
        }
        int part = travel.partAfter(now, now.paces[walker], seconds);
        return now.hasPart(part) ? part : NONE;
    }

    public int first() {
        if (!now.isThere()) {
            return NO_SUCH;
        }
        int winner = NONE;
        for (int i = 0; i < now.walkers; i++) {
            if (travel.crosses(now, now.paces[i], 0)
                    && (winner == NONE || travel.sum.against(travel.best) < 0)) {
                travel.best.take(travel.sum);
                winner = i;
            }
        }
        return winner;
    }

    public int never() {
        if (!now.isThere()) {
            return NO_SUCH;
        }
        int bits = 0;
        for (int i = 0; i < now.walkers; i++) {
            if (!travel.crosses(now, now.paces[i], 0)) {
                bits |= 1 << i;
            }
        }
        return bits;
    }

    public int catches(int walker, int other, int seconds) {
        if (!now.hasWalker(walker) || !now.hasWalker(other) || isOut(seconds, 0, 3600)) {
            return NO_SUCH;
        }
        if (!travel.crosses(now, now.paces[walker], 0)) {
            return 0;
        }
        compared.take(travel.sum);
        compared.add(seconds, 60);
        if (!travel.crosses(now, now.paces[other], 0)) {
            return 1;
        }
        return compared.against(travel.sum) <= 0 ? 1 : 0;
    }

    // ---- lace, spurt, train ----

    public long lace(int walker, int n, int what) {
        if (!canStop(walker, n) || !isSide(what)) {
            return NO_SUCH;
        }
        return bestStop(walker, n) == NONE ? NONE : travel.best.side(what);
    }

    public int ties(int walker, int n) {
        return canStop(walker, n) ? bestStop(walker, n) : NO_SUCH;
    }

    public long saves(int walker, int n, int what) {
        if (!canStop(walker, n) || !isSide(what)) {
            return NO_SUCH;
        }
        if (bestStop(walker, n) == NONE || !travel.crosses(now, now.paces[walker], 0)) {
            return NONE;
        }
        told.take(travel.sum);
        told.add(n, 1);
        told.add(-travel.best.above, travel.best.below);
        return told.side(what);
    }

    private boolean canStop(int walker, int minutes) {
        return now.hasWalker(walker) && now.parts > 0 && !isOut(minutes, 0, LONGEST_CHANGE);
    }

    private int bestStop(int walker, int minutes) {
        return travel.bestChange(now, now.paces[walker], 0, minutes, true);
    }

    public long spurt(int walker, int e, int n, int what) {
        if (!canStop(walker, n) || isOut(e, 0, TOP_SPEED) || !isSide(what)) {
            return NO_SUCH;
        }
        return bestRun(walker, e, n) == NONE ? NONE : travel.best.side(what);
    }

    public int runs(int walker, int e, int n) {
        if (!canStop(walker, n) || isOut(e, 0, TOP_SPEED)) {
            return NO_SUCH;
        }
        return bestRun(walker, e, n);
    }

    private int bestRun(int walker, int faster, int minutes) {
        int pace = now.paces[walker];
        return travel.bestChange(now, pace, pace + faster, minutes, false);
    }

    public int train(int walker, int n) {
        if (!now.hasWalker(walker) || isOut(n, 0, LATEST_TRAIN)) {
            return NO_SUCH;
        }
        for (int faster = 0; faster <= TOP_SPEED; faster++) {
            if (travel.isWithin(now, now.paces[walker] + faster, 0, n)) {
                return faster;
            }
        }
        return NONE;
    }

    public int miss(int walker, int n) {
        if (!now.hasWalker(walker) || isOut(n, 0, LATEST_TRAIN)) {
            return NO_SUCH;
        }
        if (!travel.crosses(now, now.paces[walker], 0)) {
            return NONE;
        }
        told.take(travel.sum);
        told.add(-n, 1);
        return (int) Math.max(0, -told.wholeOf(-60));
    }

    public int rests(int walker, int n) {
        if (!now.hasWalker(walker) || now.parts == 0 || isOut(n, 0, LATEST_TRAIN)) {
            return NO_SUCH;
        }
        for (int minutes = LONGEST_CHANGE; minutes >= 0; minutes--) {
            if (bestStop(walker, minutes) != NONE && !travel.best.isAbove(n)) {
                return minutes;
            }
        }
        return NONE;
    }

    public long back(int walker, int what) {
        if (!now.hasWalker(walker) || !isSide(what)) {
            return NO_SUCH;
        }
        travel.sum.put(0, 1);
        return travel.addReturn(now, now.paces[walker]) ? travel.sum.side(what) : NONE;
    }

    public int round() {
        if (!now.isThere()) {
            return NO_SUCH;
        }
        int winner = NONE;
        for (int i = 0; i < now.walkers; i++) {
            int pace = now.paces[i];
            if (travel.crosses(now, pace, 0) && travel.addReturn(now, pace)
                    && (winner == NONE || travel.sum.against(travel.best) < 0)) {
                travel.best.take(travel.sum);
                winner = i;
            }
        }
        return winner;
    }

    // ---- counts ----

    public int fits(int slot) {
        int state = openCounts(slot);
        return state == 0 ? counts.pairs() : state;
    }

    public int fit(int slot, int what) {
        int state = isSide(what) ? openCounts(slot) : NO_SUCH;
        if (state != 0) {
            return state;
        }
        counts.findFirst();
        return what == 0 ? counts.firstSteps : counts.firstSpeed;
    }

    public int unlike(int slot, int what) {
        int state = isSide(what) ? openCounts(slot) : NO_SUCH;
        if (state != 0) {
            return state;
        }
        return what == 0 ? counts.unlikeSteps() : counts.unlikeSpeeds();
    }

    public int wrong(int slot) {
        int state = openCounts(slot);
        return state == 0 ? Integer.bitCount(counts.fewestWrong()) : state;
    }

    public int wrongs(int slot) {
        int state = openFewCounts(slot);
        return state == 0 ? counts.fewestWrong() : state;
    }

    public int ways(int slot) {
        int state = openFewCounts(slot);
        return state == 0 ? counts.possibleWays() : state;
    }

    public int ask(int slot) {
        int state = openCounts(slot);
        if (state != 0) {
            return state;
        }
        counts.findQuestion();
        return counts.askedPace;
    }

    public int left(int slot) {
        int state = openCounts(slot);
        if (state != 0) {
            return state;
        }
        counts.findQuestion();
        return counts.leftAtWorst;
    }

    public long exact(int slot, int what) {
        int state = openTwoCounts(slot, what);
        if (state != 0) {
            return state;
        }
        return counts.solveSteps(told) ? told.side(what) : NONE;
    }

    public long quick(int slot, int what) {
        int state = openTwoCounts(slot, what);
        if (state != 0) {
            return state;
        }
        return counts.solveSpeed(told) ? told.side(what) : NONE;
    }

    private int openCounts(int slot) {
        if (!isSlot(slot)) {
            return NO_SUCH;
        }
        if (!slots[slot].held) {
            return NOTHING;
        }
        return counts.load(slots[slot]) ? 0 : NO_SUCH;
    }

    private int openFewCounts(int slot) {
        int state = openCounts(slot);
        return state == 0 && counts.size > Counts.FEW ? NO_SUCH : state;
    }

    private int openTwoCounts(int slot, int what) {
        int state = isSide(what) ? openCounts(slot) : NO_SUCH;
        return state == 0 && counts.size < 2 ? NO_SUCH : state;
    }

    // ---- sides and crowds ----

    public long stand(int part, int what) {
        if (!hasFlow(part) || !isSide(what)) {
            return NO_SUCH;
        }
        if (now.speeds[part] <= 0) {
            return NONE;
        }
        now.putStanding(part, told);
        return told.side(what);
    }

    public long walk(int part, int what) {
        if (!hasFlow(part) || !isSide(what)) {
            return NO_SUCH;
        }
        if (now.speeds[part] <= 0) {
            return NONE;
        }
        now.putWalking(part, now.sideWould, told);
        return told.side(what);
    }

    public int more(int part) {
        if (!hasFlow(part) || now.speeds[part] <= 0) {
            return NO_SUCH;
        }
        return walkingAgainstStanding(part, now.sideWould);
    }

    public int enough(int part) {
        if (!hasFlow(part) || now.speeds[part] <= 0) {
            return NO_SUCH;
        }
        for (int would = 0; would <= 100; would++) {
            if (walkingAgainstStanding(part, would) >= 0) {
                return would;
            }
        }
        return NONE;
    }

    private int walkingAgainstStanding(int part, int would) {
        now.putStanding(part, compared);
        now.putWalking(part, would, told);
        return told.against(compared);
    }

    private boolean hasFlow(int part) {
        return now.hasPart(part) && now.sided;
    }

    public long crowd(int slot, int part, int law) {
        int state = openCrowd(slot, part, law);
        if (state != 0) {
            return state;
        }
        return queue.endless ? NONE : queue.waited;
    }

    public int clears(int slot, int part, int law) {
        int state = openCrowd(slot, part, law);
        if (state != 0) {
            return state;
        }
        return queue.endless ? NONE : queue.cleared;
    }

    private int openCrowd(int slot, int part, int law) {
        int state = isSide(law) ? crowdState(slot, part) : NO_SUCH;
        if (state != 0) {
            return state;
        }
        if (slots[slot].hasOut(0, 1, 0, 999)) {
            return NO_SUCH;
        }
        if (law == 0) {
            now.putStanding(part, told);
        } else {
            now.putWalking(part, now.sideWould, told);
        }
        queue.pass(slots[slot], told.whole());
        return 0;
    }

    private int crowdState(int slot, int part) {
        if (!isSlot(slot) || !hasFlow(part) || now.speeds[part] <= 0) {
            return NO_SUCH;
        }
        return slots[slot].held ? 0 : NOTHING;
    }

    public long sides(int slot, int part, int n) {
        int state = openSides(slot, part, n);
        return state == 0 ? queue.leastOfAll : state;
    }

    public int begins(int slot, int part, int n) {
        int state = openSides(slot, part, n);
        if (state != 0) {
            return state;
        }
        return queue.leastOfAll < queue.leastFromStanding ? 1 : 0;
    }

    private int openSides(int slot, int part, int n) {
        int state = isOut(n, 0, 3) ? NO_SUCH : crowdState(slot, part);
        if (state != 0) {
            return state;
        }
        Slot row = slots[slot];
        if (row.size % 2 != 0 || row.hasOut(0, 2, 0, 999) || row.hasOut(1, 2, 0, 100)) {
            return NO_SUCH;
        }
        queue.changeLaws(row, now, part, n, told);
        return 0;
    }

    // ---- bands, streams, the ant ----

    public int turn(int slot, int c) {
        int state = openTurning(slot, c);
        return state == 0 ? turning.least : state;
    }

    public int turned(int slot, int c, int h) {
        int state = openTurning(slot, c);
        if (state != 0) {
            return state;
        }
        return isOut(h, 0, turning.hours - 1) ? NONE : turning.chosen[h];
    }

    public int turnings(int slot, int c) {
        int state = openTurning(slot, c);
        return state == 0 ? turning.turns : state;
    }

    private int openTurning(int slot, int c) {
        if (!isSlot(slot) || isOut(c, 0, 9999) || !now.isThere()) {
            return NO_SUCH;
        }
        Slot row = slots[slot];
        if (!row.held) {
            return NOTHING;
        }
        if (row.size % 2 != 0 || row.hasOut(0, 1, 0, 9999)) {
            return NO_SUCH;
        }
        turning.plan(row, now, c);
        return 0;
    }

    public long stream(int d, int p, int u, int what) {
        int state = isSide(what) ? openStream(d, p, u) : NO_SUCH;
        return state == 0 ? told.side(what) : state;
    }

    public long still(int d, int p, int u, int what) {
        int state = isSide(what) ? openStream(d, p, u) : NO_SUCH;
        if (state != 0) {
            return state;
        }
        told.put(2L * d * told.below, told.above);
        return told.side(what);
    }

    private int openStream(int d, int p, int u) {
        if (isNoStream(d, p, u)) {
            return NO_SUCH;
        }
        if (p <= u) {
            return NONE;
        }
        told.put(d, p + u);
        told.add(d, p - u);
        return 0;
    }

    public int ant(int d, int p, int u) {
        if (isNoStream(d, p, u)) {
            return NO_SUCH;
        }
        int come = 0;
        int length = d;
        for (int minute = 1; minute <= 1000; minute++) {
            come += p * MILLION / length;
            if (come >= MILLION) {
                return minute;
            }
            length += u;
        }
        return NONE;
    }

    private static boolean isNoStream(int d, int p, int u) {
        return isOut(d, 1, 999) || isOut(p, 1, 99) || isOut(u, 0, 99);
    }

    // ---- acts ----

    public int set(int part, int speed) {
        if (!now.hasPart(part) || isOut(speed, -TOP_SPEED, TOP_SPEED)) {
            return NO_SUCH_PART;
        }
        if (now.acts >= MOST_ACTS) {
            return NO_MORE_SETTING;
        }
        int before = now.speeds[part];
        now.noteAct(part, before);
        now.speeds[part] = speed;
        return before;
    }

    public int reverse() {
        if (!now.isThere()) {
            return NO_SUCH;
        }
        if (now.acts >= MOST_ACTS) {
            return ACTS_FORBID;
        }
        now.noteAct(NONE, 0);
        now.turnRound();
        int goingBack = 0;
        for (int i = 0; i < now.parts; i++) {
            goingBack += now.speeds[i] < 0 ? 1 : 0;
        }
        return goingBack;
    }

    public int undo() {
        if (!now.isThere()) {
            return NO_SUCH;
        }
        if (now.acts == 0) {
            return ACTS_FORBID;
        }
        now.takeBackAct();
        return now.acts;
    }

    public int anew() {
        if (!now.isThere()) {
            return NO_SUCH;
        }
        int before = now.acts;
        for (int i = 0; i < before; i++) {
            now.takeBackAct();
        }
        return before;
    }

    // ---- days drawn ----

    public int drawn(int seed) {
        return isNoSeed(seed) || !now.isThere() ? NO_SUCH : stillFrom(seed);
    }

    public int luck(int seed, int n, int walker, int m) {
        if (isNoSeed(seed) || isOut(n, 1, 20) || !now.hasWalker(walker) || isOut(m, 0, LATEST_TRAIN)) {
            return NO_SUCH;
        }
        int days = 0;
        for (int i = 0; i < n; i++) {
            if (travel.isWithin(now, now.paces[walker], stillFrom((long) seed + i), m)) {
                days++;
            }
        }
        return days;
    }

    private static boolean isNoSeed(int seed) {
        return isOut(seed, 0, 2000000000);
    }

    private int stillFrom(long seed) {
        long x = seed;
        int bits = 0;
        for (int i = 0; i < now.parts; i++) {
            x = (1103515245L * x + 12345L) % 2147483648L;
            if (x / 65536 % 100 < now.odds) {
                bits |= 1 << i;
            }
        }
        return bits;
    }

    public int grow(int walker, int n) {
        if (!now.hasWalker(walker) || isOut(n, 0, TOP_SPEED)) {
            return NO_SUCH;
        }
        if (now.acts > 0) {
            return ACTS_FORBID;
        }
        int before = now.paces[walker];
        now.paces[walker] = n;
        return before;
    }

    // ---- what there is, images, SLOTS ----

    public int count(int what) {
        switch (what) {
            case 0:
                return now.parts;
            case 1:
                return now.walkers;
            case 2:
                return now.bands;
            case 3:
                return now.odds;
            case 4:
                return now.allSteps();
            case 5:
                return now.sided ? 1 : 0;
            case 6:
                return now.acts;
            case 7:
                return now.lines;
            case 8:
                return taped;
            case 9:
                return heldSlots();
            default:
                return NONE;
        }
    }

    private int heldSlots() {
        int held = 0;
        for (int i = 0; i < SLOTS; i++) {
            held += slots[i].held ? 1 : 0;
        }
        return held;
    }

    public int image(int k) {
        if (isOut(k, 0, IMAGES - 1)) {
            return NO_SUCH;
        }
        images[k].copyFrom(now);
        imaged[k] = true;
        return 0;
    }

    public int back(int k) {
        if (isOut(k, 0, IMAGES - 1)) {
            return NO_SUCH;
        }
        if (!imaged[k]) {
            return NOTHING;
        }
        now.copyFrom(images[k]);
        return 0;
    }

    public int row(int slot, int width, int n) {
        if (!isSlot(slot) || isOut(width, 0, 3) || n > MOST_NUMBERS) {
            return NO_SUCH;
        }
        if (n < 0) {
            return SIZE_BELOW_ZERO;
        }
        slots[slot].begin(width, n);
        return 0;
    }

    public int write(int slot, int i, long v) {
        if (!isSlot(slot)) {
            return NO_SUCH;
        }
        Slot row = slots[slot];
        if (!row.held) {
            return NOTHING;
        }
        if (isOut(i, 0, row.size - 1)) {
            return BEYOND;
        }
        row.numbers[i] = row.cut(v);
        return 0;
    }

    public int paste(int slot, int i, int to, int k, int n) {
        if (!isSlot(slot) || !isSlot(to)) {
            return NO_SUCH;
        }
        Slot source = slots[slot];
        Slot target = slots[to];
        if (!source.held || !target.held) {
            return NOTHING;
        }
        if (source.width != target.width) {
            return OTHER_WIDTH;
        }
        if (n < 0 || isOut(i, 0, source.size - n) || isOut(k, 0, target.size - n)) {
            return BEYOND;
        }
        System.arraycopy(source.numbers, i, target.numbers, k, n);
        return 0;
    }

    private static boolean isSlot(int slot) {
        return !isOut(slot, 0, SLOTS - 1);
    }

    private static boolean isSide(int what) {
        return what == 0 || what == 1;
    }

    private static boolean isOut(long value, long least, long most) {
        return value < least || value > most;
    }

    /** A fraction that is put anew again and again, so that a run makes few objects. */
    private static final class Fraction {
        long above = 0;
        long below = 1;

        /** In lowest terms, what is below above 0; nothing is divided by 0, 0 / 1 stands for it. */
        void put(long a, long b) {
            long divisor = b;
            long rest = a;
            for (int i = 0; i < 200 && rest != 0; i++) {
                long next = divisor % rest;
                divisor = rest;
                rest = next;
            }
            if (b == 0 || divisor == 0) {
                above = 0;
                below = 1;
                return;
            }
            above = a / divisor;
            below = b / divisor;
            if (below < 0) {
                above = -above;
                below = -below;
            }
        }

        void take(Fraction other) {
            above = other.above;
            below = other.below;
        }

        void add(long a, long b) {
            put(above * b + a * below, below * b);
        }

        /** By whole parts and turned rests: the products that cross would not fit in a long. */
        int against(Fraction other) {
            long a = above;
            long b = below;
            long c = other.above;
            long d = other.below;
            int sign = 1;
            for (int i = 0; i < 200 && b != 0 && d != 0; i++) {
                long whole = Math.floorDiv(a, b);
                long otherWhole = Math.floorDiv(c, d);
                if (whole != otherWhole) {
                    return whole < otherWhole ? -sign : sign;
                }
                long rest = a - whole * b;
                long otherRest = c - otherWhole * d;
                if (rest == 0 || otherRest == 0) {
                    return sign * Long.compare(rest, otherRest);
                }
                a = b;
                b = rest;
                c = d;
                d = otherRest;
                sign = -sign;
            }
            return 0;
        }

        boolean isAbove(long whole) {
            return above > whole * below;
        }

        long whole() {
            return wholeOf(1);
        }

        /** So many times the fraction, cut down. */
        long wholeOf(long times) {
            return below == 0 ? 0 : Math.floorDiv(times * above, below);
        }

        long side(int what) {
            return what == 0 ? above : below;
        }
    }

    /** A STAIR with its acts: what is read from a TAPE, kept in an IMAGE and gone back to. */
    private static final class Layout {
        int lines = 0;
        int odds = 0;
        int parts = 0;
        final int[] steps = new int[MOST_PARTS];
        final int[] speeds = new int[MOST_PARTS];
        int walkers = 0;
        final int[] paces = new int[MOST_WALKERS];
        int bands = 0;
        final int[] carried = new int[MOST_BANDS];
        boolean sided = false;
        int sideStand = 1;
        int sideWalk = 1;
        int sidePace = 1;
        int sideWould = 0;
        int acts = 0;
        final int[] actParts = new int[MOST_ACTS];
        final int[] actSpeeds = new int[MOST_ACTS];

        void clear() {
            lines = 0;
            odds = 0;
            parts = 0;
            walkers = 0;
            bands = 0;
            sided = false;
            acts = 0;
        }

        void copyFrom(Layout other) {
            lines = other.lines;
            odds = other.odds;
            parts = other.parts;
            System.arraycopy(other.steps, 0, steps, 0, MOST_PARTS);
            System.arraycopy(other.speeds, 0, speeds, 0, MOST_PARTS);
            walkers = other.walkers;
            System.arraycopy(other.paces, 0, paces, 0, MOST_WALKERS);
            bands = other.bands;
            System.arraycopy(other.carried, 0, carried, 0, MOST_BANDS);
            sided = other.sided;
            sideStand = other.sideStand;
            sideWalk = other.sideWalk;
            sidePace = other.sidePace;
            sideWould = other.sideWould;
            acts = other.acts;
            System.arraycopy(other.actParts, 0, actParts, 0, MOST_ACTS);
            System.arraycopy(other.actSpeeds, 0, actSpeeds, 0, MOST_ACTS);
        }

        boolean isThere() {
            return lines > 0;
        }

        boolean hasPart(int part) {
            return part >= 0 && part < parts;
        }

        boolean hasWalker(int walker) {
            return walker >= 0 && walker < walkers;
        }

        int allSteps() {
            return stepsAhead(parts);
        }

        int stepsAhead(int part) {
            int sum = 0;
            for (int i = 0; i < part && i < MOST_PARTS; i++) {
                sum += steps[i];
            }
            return sum;
        }

        void turnRound() {
            for (int i = 0; i < parts; i++) {
                speeds[i] = -speeds[i];
            }
        }

        /** An act is kept as the PART and its SPEED ahead of it, or as NONE if all turned round. */
        void noteAct(int part, int speed) {
            if (acts >= MOST_ACTS) {
                return;
            }
            actParts[acts] = part;
            actSpeeds[acts] = speed;
            acts++;
        }

        void takeBackAct() {
            if (acts <= 0) {
                return;
            }
            acts--;
            if (hasPart(actParts[acts])) {
                speeds[actParts[acts]] = actSpeeds[acts];
            } else {
                turnRound();
            }
        }

        void putStanding(int part, Fraction flow) {
            flow.put(2L * speeds[part], sideStand);
        }

        /** The side that is full first holds the other one back, so that the shares stay as told. */
        void putWalking(int part, int would, Fraction flow) {
            long standing = 100L * speeds[part];
            long standingShare = (long) sideStand * (100 - would);
            long walking = 100L * (speeds[part] + sidePace);
            long walkingShare = (long) sideWalk * would;
            boolean walkersLimit = would == 100
                    || would > 0 && walking * standingShare < standing * walkingShare;
            if (walkersLimit) {
                flow.put(walking, walkingShare);
            } else {
                flow.put(standing, standingShare);
            }
        }
    }

    /** Reads a text from left to right, so that the first FAULT found is the first by its place. */
    private static final class Reader {
        private static final int END = 0;
        private static final int WORD = 1;
        private static final int NUMBER = 2;
        private static final int SIGN = 3;
        private static final int STRANGE = 4;
        private static final int CANNOT_STAND = 1;
        private static final int OUT_OF_BOUNDS = 2;
        private static final int TOO_MANY = 3;

        int fault = 0;
        int place = NONE;
        final byte[] tape = new byte[TAPE_BYTES];
        final Layout fresh = new Layout();
        private int length = 0;
        private int kind = END;
        private int from = 0;
        private int until = 0;

        void read(int size) {
            length = Math.min(size, tape.length);
            fresh.clear();
            fault = 0;
            place = NONE;
            until = 0;
            advance();
            for (int i = 0; i <= length && kind != END && fault == 0; i++) {
                readLine();
            }
        }

        private void readLine() {
            if (fresh.lines == 0) {
                readHead();
            } else if (isWord("part")) {
                readPart();
            } else if (isWord("walker")) {
                readWalker();
            } else if (isWord("sides")) {
                readSides();
            } else if (isWord("band")) {
                readBand();
            } else {
                refuse(CANNOT_STAND);
            }
            if (fault == 0 && kind != SIGN) {
                refuse(CANNOT_STAND);
            }
            if (fault == 0) {
                fresh.lines++;
                advance();
            }
        }

        private void readHead() {
            expectWord("stair");
            fresh.odds = namedNumber("odds", 0, 100);
        }

        private void readPart() {
            int part = fresh.parts;
            if (part >= MOST_PARTS) {
                refuse(TOO_MANY);
                return;
            }
            expectWord("part");
            fresh.steps[part] = namedNumber("steps", 1, 200);
            fresh.speeds[part] = namedNumber("moves", 0, TOP_SPEED);
            if (fault == 0 && isWord("back")) {
                fresh.speeds[part] = -fresh.speeds[part];
                advance();
            }
            fresh.parts++;
        }

        private void readWalker() {
            if (fresh.walkers >= MOST_WALKERS) {
                refuse(TOO_MANY);
                return;
            }
            expectWord("walker");
            fresh.paces[fresh.walkers] = namedNumber("pace", 0, TOP_SPEED);
            fresh.walkers++;
        }

        private void readSides() {
            expectWord("sides");
            fresh.sideStand = namedNumber("stand", 1, 9);
            fresh.sideWalk = namedNumber("walk", 1, 9);
            fresh.sidePace = namedNumber("pace", 1, TOP_SPEED);
            fresh.sideWould = namedNumber("would", 0, 100);
            fresh.sided = true;
        }

        private void readBand() {
            if (fresh.bands >= MOST_BANDS) {
                refuse(TOO_MANY);
                return;
            }
            expectWord("band");
            fresh.carried[fresh.bands] = boundedNumber(1, 9999);
            fresh.bands++;
        }

        private int namedNumber(String name, int least, int most) {
            expectWord(name);
            return boundedNumber(least, most);
        }

        private void expectWord(String word) {
            if (fault != 0) {
                return;
            }
            if (isWord(word)) {
                advance();
            } else {
                refuse(CANNOT_STAND);
            }
        }

        private int boundedNumber(int least, int most) {
            if (fault != 0) {
                return least;
            }
            if (kind != NUMBER) {
                refuse(CANNOT_STAND);
                return least;
            }
            int value = numberHere();
            if (value < least || value > most) {
                refuse(OUT_OF_BOUNDS);
                return least;
            }
            advance();
            return value;
        }

        private void refuse(int what) {
            if (fault == 0) {
                fault = what;
                place = from;
            }
        }

        private boolean isWord(String word) {
            if (kind != WORD || until - from != word.length()) {
                return false;
            }
            for (int i = 0; i < word.length() && from + i < length; i++) {
                if (tape[from + i] != word.charAt(i)) {
                    return false;
                }
            }
            return true;
        }

        /** Held under a bound, since a number may have as many digits as the TAPE has bytes. */
        private int numberHere() {
            int value = 0;
            for (int i = from; i < until && i < length; i++) {
                value = Math.min(MILLION, value * 10 + tape[i] - '0');
            }
            return value;
        }

        private void advance() {
            int i = until;
            while (i < length && (tape[i] == ' ' || tape[i] == '\n')) {
                i++;
            }
            from = i;
            kind = kindAt(i);
            if (kind != END) {
                i++;
            }
            while (i < length && (kind == WORD || kind == NUMBER) && kindAt(i) == kind) {
                i++;
            }
            until = i;
        }

        private int kindAt(int i) {
            if (i < 0 || i >= length) {
                return END;
            }
            byte sign = tape[i];
            if (sign >= 'a' && sign <= 'z') {
                return WORD;
            }
            if (sign >= '0' && sign <= '9') {
                return NUMBER;
            }
            return sign == ';' ? SIGN : STRANGE;
        }
    }

    /** Where a WALKER is when, and how long he takes. */
    private static final class Travel {
        final Fraction sum = new Fraction();
        final Fraction best = new Fraction();
        private final Fraction minutesLeft = new Fraction();

        /** Puts the TIME of the whole way into sum, the PARTS in still not moving. */
        boolean crosses(Layout layout, int pace, int still) {
            sum.put(0, 1);
            return addTimes(layout, pace, still, 0, layout.parts);
        }

        /** Adds the TIME from one PART's start to another's; false, if he never comes there. */
        private boolean addTimes(Layout layout, int pace, int still, int from, int to) {
            for (int i = from; i < to && i < layout.parts; i++) {
                int rate = pace + ((still >> i & 1) == 1 ? 0 : layout.speeds[i]);
                if (rate <= 0) {
                    return false;
                }
                sum.add(layout.steps[i], rate);
            }
            return true;
        }

        boolean addReturn(Layout layout, int pace) {
            for (int i = layout.parts - 1; i >= 0; i--) {
                int rate = pace - layout.speeds[i];
                if (rate <= 0) {
                    return false;
                }
                sum.add(layout.steps[i], rate);
            }
            return true;
        }

        boolean isWithin(Layout layout, int pace, int still, int minutes) {
            return crosses(layout, pace, still) && !sum.isAbove(minutes);
        }

        int partAfter(Layout layout, int pace, int seconds) {
            minutesLeft.put(seconds, 60);
            return carry(layout, pace, 0);
        }

        int stepsAfter(Layout layout, int pace, int seconds) {
            int part = partAfter(layout, pace, seconds);
            int ahead = layout.stepsAhead(part);
            if (!layout.hasPart(part)) {
                return ahead;
            }
            int rate = Math.max(0, pace + layout.speeds[part]);
            return ahead + (int) minutesLeft.wholeOf(rate);
        }

        /**
         * Spends minutesLeft from a PART's start on, and answers the PART he is on then (as many as
         * there are, at the way's end); what he has spent on it, or has over, is left in minutesLeft.
         */
        private int carry(Layout layout, int pace, int start) {
            int part = start;
            while (part < layout.parts) {
                int rate = pace + layout.speeds[part];
                if (rate <= 0 || rate * minutesLeft.above < layout.steps[part] * minutesLeft.below) {
                    return part;
                }
                minutesLeft.add(-layout.steps[part], rate);
                part++;
            }
            return part;
        }

        /**
         * The first PART by which a change of pace for so many minutes is best (its TIME is in best),
         * NONE if by none he is ever there.
         */
        int bestChange(Layout layout, int pace, int changed, int minutes, boolean stops) {
            int found = NONE;
            for (int i = 0; i < layout.parts; i++) {
                if (changes(layout, pace, changed, minutes, stops, i)
                        && (found == NONE || sum.against(best) < 0)) {
                    best.take(sum);
                    found = i;
                }
            }
            return found;
        }

        /** Puts into sum the TIME if he changes at a PART's start; false, if he never is there. */
        private boolean changes(Layout layout, int pace, int changed, int minutes, boolean stops, int start) {
            sum.put(0, 1);
            if (!addTimes(layout, pace, 0, 0, start)) {
                return false;
            }
            minutesLeft.put(minutes, 1);
            int part = carry(layout, changed, start);
            sum.add(minutes, 1);
            if (!layout.hasPart(part)) {
                if (!stops) {
                    sum.add(-minutesLeft.above, minutesLeft.below);
                }
                return true;
            }
            int rate = pace + layout.speeds[part];
            if (rate <= 0) {
                return false;
            }
            long come = Math.max(0, changed + layout.speeds[part]) * minutesLeft.above;
            long whole = layout.steps[part] * minutesLeft.below;
            sum.add(whole - come, minutesLeft.below * rate);
            return addTimes(layout, pace, 0, part + 1, layout.parts);
        }
    }

    /** A SLOT: its row is made once and used again for every row that it is given. */
    private static final class Slot {
        boolean held = false;
        int width = 0;
        int size = 0;
        final long[] numbers = new long[MOST_NUMBERS];

        void begin(int rowWidth, int rowSize) {
            held = true;
            width = rowWidth;
            size = rowSize;
            Arrays.fill(numbers, 0L);
        }

        long cut(long value) {
            switch (width) {
                case 0:
                    return (byte) value;
                case 1:
                    return (short) value;
                case 2:
                    return (int) value;
                default:
                    return value;
            }
        }

        /** Whether one of the numbers start, start + step, .. is out of the bounds. */
        boolean hasOut(int start, int step, long least, long most) {
            for (int i = start; i < size && i < MOST_NUMBERS; i += step) {
                if (isOut(numbers[i], least, most)) {
                    return true;
                }
            }
            return false;
        }
    }

    /**
     * What some counted. Of one SPEED and one count the STEPS that fit lie side by side, so that
     * they are found by their ends instead of one by one.
     */
    private static final class Counts {
        static final int FEW = 10;
        private static final int MOST_STEPS = 200;
        private static final int MOST_COUNTS = MOST_NUMBERS / 3;

        int size = 0;
        int firstSteps = NONE;
        int firstSpeed = NONE;
        int askedPace = NONE;
        int leftAtWorst = 0;
        private final int[] paces = new int[MOST_COUNTS];
        private final int[] ways = new int[MOST_COUNTS];
        private final int[] counted = new int[MOST_COUNTS];
        private final int[] leasts = new int[TOP_SPEED + 1];
        private final int[] mosts = new int[TOP_SPEED + 1];
        private final int[] withIt = new int[MOST_STEPS + 1];
        private final int[] againstIt = new int[MOST_STEPS + 1];
        private final int[] tally = new int[MOST_STEPS + 1];
        private final int[] possible = new int[1 << FEW];
        private int least = 1;
        private int most = MOST_STEPS;

        boolean load(Slot row) {
            if (row.size % 3 != 0 || row.hasOut(0, 3, 1, 30) || row.hasOut(1, 3, -1, 1)
                    || row.hasOut(2, 3, 0, 9999)) {
                return false;
            }
            size = row.size / 3;
            for (int i = 0; i < size; i++) {
                paces[i] = (int) row.numbers[3 * i];
                ways[i] = (int) row.numbers[3 * i + 1];
                counted[i] = (int) row.numbers[3 * i + 2];
                if (ways[i] == 0) {
                    return false;
                }
            }
            findEnds();
            return true;
        }

        /** For each SPEED the least and the most STEPS that fit all; none, if the least is above. */
        private void findEnds() {
            for (int speed = 0; speed <= TOP_SPEED; speed++) {
                int low = 1;
                int high = MOST_STEPS;
                for (int i = 0; i < size && low <= high; i++) {
                    findOne(i, ways[i], speed);
                    low = Math.max(low, least);
                    high = Math.min(high, most);
                }
                leasts[speed] = low;
                mosts[speed] = high;
            }
        }

        /** Puts into least and most the ends of the STEPS that fit one count alone. */
        private void findOne(int i, int way, int speed) {
            int pace = paces[i];
            int rate = pace + way * speed;
            if (rate <= 0 || pace <= 0) {
                least = 1;
                most = 0;
                return;
            }
            least = Math.max(1, (counted[i] * rate + pace - 1) / pace);
            most = Math.min(MOST_STEPS, ((counted[i] + 1) * rate - 1) / pace);
        }

        int pairs() {
            int sum = 0;
            for (int speed = 0; speed <= TOP_SPEED; speed++) {
                sum += Math.max(0, mosts[speed] - leasts[speed] + 1);
            }
            return sum;
        }

        void findFirst() {
            firstSteps = NONE;
            firstSpeed = NONE;
            for (int speed = 0; speed <= TOP_SPEED; speed++) {
                if (leasts[speed] <= mosts[speed] && (firstSteps == NONE || leasts[speed] < firstSteps)) {
                    firstSteps = leasts[speed];
                    firstSpeed = speed;
                }
            }
        }

        int unlikeSteps() {
            Arrays.fill(tally, 0);
            int unlike = 0;
            for (int speed = 0; speed <= TOP_SPEED; speed++) {
                for (int steps = leasts[speed]; steps <= mosts[speed]; steps++) {
                    unlike += tally[steps] == 0 ? 1 : 0;
                    tally[steps] = 1;
                }
            }
            return unlike;
        }

        int unlikeSpeeds() {
            int unlike = 0;
            for (int speed = 0; speed <= TOP_SPEED; speed++) {
                unlike += leasts[speed] <= mosts[speed] ? 1 : 0;
            }
            return unlike;
        }

        /** The fewest counts that some pair does not fit, as bits, the least of several. */
        int fewestWrong() {
            int all = (1 << size) - 1;
            int found = all;
            for (int speed = 0; speed <= TOP_SPEED; speed++) {
                Arrays.fill(withIt, 0);
                for (int i = 0; i < size; i++) {
                    markFitting(withIt, i, ways[i], speed);
                }
                for (int steps = 1; steps <= MOST_STEPS; steps++) {
                    found = fewer(all & ~withIt[steps], found);
                }
            }
            return found;
        }

        private static int fewer(int bits, int others) {
            int size = Integer.bitCount(bits);
            int otherSize = Integer.bitCount(others);
            return size < otherSize || size == otherSize && bits < others ? bits : others;
        }

        private void markFitting(int[] marks, int i, int way, int speed) {
            findOne(i, way, speed);
            for (int steps = least; steps <= most; steps++) {
                marks[steps] |= 1 << i;
            }
        }

        int possibleWays() {
            if (size > FEW) {
                return 0;
            }
            Arrays.fill(possible, 0);
            int found = 0;
            int all = (1 << size) - 1;
            for (int speed = 0; speed <= TOP_SPEED; speed++) {
                Arrays.fill(withIt, 0);
                Arrays.fill(againstIt, 0);
                for (int i = 0; i < size; i++) {
                    markFitting(withIt, i, 1, speed);
                    markFitting(againstIt, i, -1, speed);
                }
                for (int steps = 1; steps <= MOST_STEPS; steps++) {
                    if ((withIt[steps] | againstIt[steps]) == all) {
                        found += markWays(withIt[steps], againstIt[steps]);
                    }
                }
            }
            return found;
        }

        /** Marks all ways whose free counts (fitting both with it and against it) go either way. */
        private int markWays(int with, int against) {
            int free = with & against;
            int fixed = with & ~against;
            int found = 0;
            int part = free;
            for (int i = 0; i < possible.length; i++) {
                int way = fixed | part;
                if (way < possible.length && possible[way] == 0) {
                    possible[way] = 1;
                    found++;
                }
                if (part == 0) {
                    return found;
                }
                part = part - 1 & free;
            }
            return found;
        }

        void findQuestion() {
            askedPace = NONE;
            leftAtWorst = pairs();
            for (int pace = 1; pace <= 30; pace++) {
                int worst = worstAfter(pace, leftAtWorst);
                if (worst < leftAtWorst) {
                    leftAtWorst = worst;
                    askedPace = pace;
                }
            }
        }

        /** How many pairs the worst count of one of this pace leaves; not looked at beyond enough. */
        private int worstAfter(int pace, int enough) {
            Arrays.fill(tally, 0);
            int worst = 0;
            for (int speed = 0; speed <= TOP_SPEED && worst < enough; speed++) {
                int rate = Math.max(1, pace + speed);
                for (int steps = leasts[speed]; steps <= mosts[speed]; steps++) {
                    int count = pace * steps / rate;
                    tally[count]++;
                    worst = Math.max(worst, tally[count]);
                }
            }
            return worst;
        }

        boolean solveSteps(Fraction into) {
            long divisor = divisor();
            into.put((long) counted[0] * counted[1] * (paces[1] * ways[0] - paces[0] * ways[1]), divisor);
            return divisor != 0;
        }

        boolean solveSpeed(Fraction into) {
            long divisor = divisor();
            into.put((long) paces[0] * paces[1] * (counted[1] - counted[0]), divisor);
            return divisor != 0;
        }

        private long divisor() {
            return (long) counted[0] * ways[0] * paces[1] - (long) counted[1] * ways[1] * paces[0];
        }
    }

    /** Who waits at the foot of a PART, minute by minute. */
    private static final class Queue {
        private static final int MOST_MINUTES = MOST_NUMBERS / 2;
        private static final long ABOVE_ANY_WAIT = 999L * MOST_MINUTES * MOST_MINUTES + 1;

        boolean endless = false;
        long waited = 0;
        int cleared = 0;
        long leastFromStanding = 0;
        long leastOfAll = 0;
        private int minutes = 0;
        private long standing = 0;
        private final long[] walking = new long[MOST_MINUTES];
        private final long[] coming = new long[MOST_MINUTES];

        void pass(Slot row, long flow) {
            waited = 0;
            cleared = 0;
            long waiting = 0;
            for (int i = 0; i < row.size; i++) {
                waiting = Math.max(0, waiting + row.numbers[i] - flow);
                waited += waiting;
                if (waiting > 0) {
                    cleared = i + 2;
                }
            }
            endless = waiting > 0 && flow <= 0;
            if (waiting == 0 || flow <= 0) {
                return;
            }
            // Nobody comes any more, so that the rest is a sum of falling numbers.
            long still = (waiting + flow - 1) / flow;
            waited += (still - 1) * waiting - flow * (still * (still - 1) / 2);
            cleared = row.size + (int) still;
        }

        void changeLaws(Slot row, Layout layout, int part, int changes, Fraction flow) {
            layout.putStanding(part, flow);
            standing = flow.whole();
            minutes = Math.min(MOST_MINUTES, row.size / 2);
            for (int i = 0; i < minutes; i++) {
                coming[i] = row.numbers[2 * i];
                layout.putWalking(part, (int) row.numbers[2 * i + 1], flow);
                walking[i] = flow.whole();
            }
            leastFromStanding = leastWait(0, 0, changes, 0, 0, ABOVE_ANY_WAIT);
            leastOfAll = leastWait(0, 1, changes, 0, 0, leastFromStanding);
        }

        /** Who waits less now may wait more later, so that all rows of laws are gone through. */
        private long leastWait(int minute, int law, int changes, long waiting, long sum, long known) {
            if (minute >= minutes || sum >= known) {
                return Math.min(known, sum);
            }
            long flow = law == 0 ? standing : walking[minute];
            long next = Math.max(0, waiting + coming[minute] - flow);
            long found = leastWait(minute + 1, law, changes, next, sum + next, known);
            if (changes > 0) {
                found = leastWait(minute + 1, 1 - law, changes - 1, next, sum + next, found);
            }
            return found;
        }
    }

    /** Which BANDS go up hour by hour, so that fewest are left. */
    private static final class Turning {
        private static final int MOST_HOURS = MOST_NUMBERS / 2;
        private static final int MOST_SETS = 1 << MOST_BANDS;

        int hours = 0;
        int least = 0;
        int turns = 0;
        final int[] chosen = new int[MOST_HOURS];
        private int sets = 1;
        private int cost = 0;
        private final int[] carriedBy = new int[MOST_SETS];
        private final int[][] leftFrom = new int[MOST_HOURS][MOST_SETS];

        void plan(Slot row, Layout layout, int turnCost) {
            hours = Math.min(MOST_HOURS, row.size / 2);
            sets = 1 << layout.bands;
            cost = turnCost;
            for (int set = 0; set < sets; set++) {
                carriedBy[set] = 0;
                for (int i = 0; i < layout.bands; i++) {
                    carriedBy[set] += (set >> i & 1) == 1 ? layout.carried[i] : 0;
                }
            }
            for (int hour = hours - 1; hour >= 0; hour--) {
                fillHour(hour, (int) row.numbers[2 * hour], (int) row.numbers[2 * hour + 1]);
            }
            choose();
        }

        /** From behind, so that the least row of sets can be chosen from the front. */
        private void fillHour(int hour, int up, int down) {
            for (int set = 0; set < sets; set++) {
                int left = Math.max(0, up - carriedBy[set]) + Math.max(0, down - carriedBy[sets - 1 - set]);
                if (hour + 1 < hours) {
                    int next = bestAfter(hour + 1, set);
                    left += priceOf(hour + 1, set, next);
                }
                leftFrom[hour][set] = left;
            }
        }

        private int bestAfter(int hour, int before) {
            int found = 0;
            for (int set = 1; set < sets; set++) {
                if (priceOf(hour, before, set) < priceOf(hour, before, found)) {
                    found = set;
                }
            }
            return found;
        }

        private int priceOf(int hour, int before, int set) {
            return leftFrom[hour][set] + cost * Integer.bitCount(before ^ set);
        }

        private void choose() {
            least = 0;
            turns = 0;
            if (hours == 0) {
                return;
            }
            chosen[0] = 0;
            for (int set = 1; set < sets; set++) {
                if (leftFrom[0][set] < leftFrom[0][chosen[0]]) {
                    chosen[0] = set;
                }
            }
            least = leftFrom[0][chosen[0]];
            for (int hour = 1; hour < hours; hour++) {
                chosen[hour] = bestAfter(hour, chosen[hour - 1]);
                turns += Integer.bitCount(chosen[hour] ^ chosen[hour - 1]);
            }
        }
    }
}

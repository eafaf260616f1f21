import java.util.HashSet;
import java.util.Random;
import java.util.Set;

/** Compares the class with Plain on many ways and rows drawn from a fixed seed. */
public final class PlainTest {
    private static final Random DRAW = new Random(20261118);
    /** One object for all, so that what is left over from an earlier call is found. */
    private static final MovingStair OFTEN = new MovingStair();

    private final int[] steps;
    private final int[] speeds;
    private final int[] paces;
    private final int[] sides = {between(1, 9), between(1, 9), between(1, 30), between(0, 100)};
    private final int[] bands;
    private final int odds = between(0, 100);
    private final MovingStair x;
    private int calls = 0;
    private final String text;

    private PlainTest() {
        steps = new int[between(0, 4)];
        speeds = new int[steps.length];
        paces = new int[between(1, 8)];
        bands = new int[between(0, 3)];
        StringBuilder told = new StringBuilder("stair odds " + odds + ";");
        int top = DRAW.nextBoolean() ? 30 : 5;
        for (int i = 0; i < steps.length; i++) {
            steps[i] = between(1, DRAW.nextBoolean() ? 200 : 10);
            speeds[i] = between(0, top) * (DRAW.nextInt(4) == 0 ? -1 : 1);
            told.append("part steps ").append(steps[i]).append(" moves ").append(Math.abs(speeds[i]))
                    .append(speeds[i] < 0 ? " back;" : ";");
        }
        for (int i = 0; i < paces.length; i++) {
            paces[i] = between(0, top);
            told.append("walker pace ").append(paces[i]).append(";");
        }
        told.append("sides stand ").append(sides[0]).append(" walk ").append(sides[1]).append(" pace ")
                .append(sides[2]).append(" would ").append(sides[3]).append(";");
        for (int i = 0; i < bands.length; i++) {
            bands[i] = between(1, DRAW.nextBoolean() ? 9999 : 20);
            told.append("band ").append(bands[i]).append(";");
        }
        text = told.toString();
        x = OFTEN;
        Check.tell(x, text);
    }

    private static int between(int least, int most) {
        return least + DRAW.nextInt(most - least + 1);
    }

    public static void main(String[] args) {
        for (int i = 0; i < 1500; i++) {
            PlainTest test = new PlainTest();
            test.times();
            test.races();
            test.changes();
            test.trains();
            test.flows();
            test.crowds();
            test.sides();
            test.bands();
            test.days();
        }
        for (int i = 0; i < 400; i++) {
            counts();
        }
        streams();
        Check.finish("PlainTest");
    }

    private void due(String call, long got, long want) {
        calls++;
        Check.due(text + " " + call, got, want);
    }

    private void dueRatio(String call, long above, long below, Plain.Ratio want) {
        due(call + " above", above, want == null ? -1 : want.above().longValueExact());
        due(call + " below", below, want == null ? -1 : want.below().longValueExact());
    }

    private void times() {
        for (int w = 0; w < paces.length; w++) {
            Plain.Ratio time = Plain.time(steps, speeds, paces[w]);
            dueRatio("time " + w, x.time(w, 0), x.time(w, 1), time);
            dueRatio("steps " + w, x.steps(w, 0), x.steps(w, 1),
                    time == null ? null : time.times(Plain.Ratio.of(paces[w], 1)));
            dueRatio("back " + w, x.back(w, 0), x.back(w, 1), back(w));
            int seconds = between(0, DRAW.nextBoolean() ? 36000 : 900);
            long[] place = Plain.place(steps, speeds, paces[w], seconds);
            due("at " + w + " " + seconds, x.at(w, seconds), place[0]);
            due("on " + w + " " + seconds, x.on(w, seconds), place[1] == steps.length ? -1 : place[1]);
        }
    }

    private Plain.Ratio back(int w) {
        int[] turnedSteps = new int[steps.length];
        int[] turnedSpeeds = new int[steps.length];
        for (int i = 0; i < steps.length; i++) {
            turnedSteps[i] = steps[steps.length - 1 - i];
            turnedSpeeds[i] = -speeds[steps.length - 1 - i];
        }
        return Plain.time(turnedSteps, turnedSpeeds, paces[w]);
    }

    private void races() {
        int first = -1;
        int round = -1;
        int never = 0;
        Plain.Ratio least = null;
        Plain.Ratio leastRound = null;
        for (int w = 0; w < paces.length; w++) {
            Plain.Ratio there = Plain.time(steps, speeds, paces[w]);
            Plain.Ratio again = back(w);
            if (there == null) {
                never |= 1 << w;
                continue;
            }
            if (least == null || there.compare(least) < 0) {
                least = there;
                first = w;
            }
            if (again != null && (leastRound == null || there.plus(again).compare(leastRound) < 0)) {
                leastRound = there.plus(again);
                round = w;
            }
        }
        due("first", x.first(), first);
        due("never", x.never(), never);
        due("round", x.round(), round);
        catching(between(0, paces.length - 1), between(0, paces.length - 1), between(0, DRAW.nextBoolean() ? 3600 : 60));
    }

    private void catching(int w, int o, int seconds) {
        Plain.Ratio his = Plain.time(steps, speeds, paces[w]);
        Plain.Ratio others = Plain.time(steps, speeds, paces[o]);
        boolean want = his != null
                && (others == null || his.plus(Plain.Ratio.of(seconds, 60)).compare(others) <= 0);
        due("catches " + w + " " + o + " " + seconds, x.catches(w, o, seconds), want ? 1 : 0);
    }

    private void changes() {
        if (steps.length == 0) {
            return;
        }
        int w = between(0, paces.length - 1);
        int n = between(0, DRAW.nextBoolean() ? 60 : 6);
        int e = between(0, 30);
        Plain.Ratio[] stop = new Plain.Ratio[1];
        int tied = best(w, 0, n, true, stop);
        dueRatio("lace " + w + " " + n, x.lace(w, n, 0), x.lace(w, n, 1), stop[0]);
        due("ties " + w + " " + n, x.ties(w, n), tied);
        Plain.Ratio time = Plain.time(steps, speeds, paces[w]);
        dueRatio("saves " + w + " " + n, x.saves(w, n, 0), x.saves(w, n, 1),
                stop[0] == null ? null : time.plus(Plain.Ratio.of(n, 1)).minus(stop[0]));
        Plain.Ratio[] run = new Plain.Ratio[1];
        int ran = best(w, paces[w] + e, n, false, run);
        dueRatio("spurt " + w + " " + e + " " + n, x.spurt(w, e, n, 0), x.spurt(w, e, n, 1), run[0]);
        due("runs " + w + " " + e + " " + n, x.runs(w, e, n), ran);
        int train = between(0, DRAW.nextBoolean() ? 600 : 40);
        int rest = -1;
        for (int m = 0; m <= 60; m++) {
            if (best(w, 0, m, true, stop) >= 0 && stop[0].compare(Plain.Ratio.of(train, 1)) <= 0) {
                rest = m;
            }
        }
        due("rests " + w + " " + train, x.rests(w, train), rest);
    }

    private int best(int w, int other, int n, boolean stops, Plain.Ratio[] least) {
        int found = -1;
        least[0] = null;
        for (int i = 0; i < steps.length; i++) {
            Plain.Ratio time = Plain.changed(steps, speeds, paces[w], other, n, i, stops);
            if (time != null && (least[0] == null || time.compare(least[0]) < 0)) {
                least[0] = time;
                found = i;
            }
        }
        return found;
    }

    private void trains() {
        int w = between(0, paces.length - 1);
        int n = between(0, DRAW.nextBoolean() ? 600 : 20);
        int faster = -1;
        for (int e = 30; e >= 0; e--) {
            Plain.Ratio time = Plain.time(steps, speeds, paces[w] + e);
            if (time != null && time.compare(Plain.Ratio.of(n, 1)) <= 0) {
                faster = e;
            }
        }
        due("train " + w + " " + n, x.train(w, n), faster);
        Plain.Ratio time = Plain.time(steps, speeds, paces[w]);
        long missed = -1;
        if (time != null) {
            Plain.Ratio late = time.minus(Plain.Ratio.of(n, 1)).times(Plain.Ratio.of(60, 1));
            missed = Math.max(0, -new Plain.Ratio(late.above().negate(), late.below()).cut());
        }
        due("miss " + w + " " + n, x.miss(w, n), missed);
        for (int p = 0; p < steps.length; p++) {
            int rate = paces[w] + speeds[p];
            dueRatio("spends " + w + " " + p, x.spends(w, p, 0), x.spends(w, p, 1),
                    rate <= 0 ? null : Plain.Ratio.of(steps[p], rate));
        }
    }

    private void flows() {
        for (int p = 0; p < steps.length; p++) {
            if (speeds[p] <= 0) {
                due("stand", x.stand(p, 0), -1);
                due("walk", x.walk(p, 0), -1);
                due("more", x.more(p), -2);
                due("enough", x.enough(p), -2);
                continue;
            }
            Plain.Ratio standing = Plain.standing(speeds[p], sides[0]);
            Plain.Ratio walking = Plain.walking(speeds[p], sides, sides[3]);
            dueRatio("stand " + p, x.stand(p, 0), x.stand(p, 1), standing);
            dueRatio("walk " + p, x.walk(p, 0), x.walk(p, 1), walking);
            due("more " + p, x.more(p), walking.compare(standing));
            int enough = -1;
            for (int would = 100; would >= 0; would--) {
                enough = Plain.walking(speeds[p], sides, would).compare(standing) >= 0 ? would : enough;
            }
            due("enough " + p, x.enough(p), enough);
        }
    }

    private long flow(int part, int law, int would) {
        return law == 0 ? Plain.standing(speeds[part], sides[0]).cut() : Plain.walking(speeds[part], sides, would).cut();
    }

    private void crowds() {
        int part = between(0, 3);
        if (part >= steps.length || speeds[part] <= 0) {
            return;
        }
        int law = between(0, 1);
        long flow = flow(part, law, sides[3]);
        long[] come = new long[between(0, 12)];
        long waiting = 0;
        long waited = 0;
        int clear = 0;
        for (int i = 0; i < come.length; i++) {
            come[i] = between(0, DRAW.nextInt(4) == 0 ? 999 : (int) flow * 3 / 2 + 1);
        }
        Check.fill(x, 0, between(1, 3), come);
        for (int minute = 1; minute <= come.length || waiting > 0 && flow > 0; minute++) {
            waiting += minute <= come.length ? come[minute - 1] : 0;
            waiting -= Math.min(flow, waiting);
            waited += waiting;
            clear = waiting > 0 ? minute + 1 : clear;
        }
        due("crowd " + part + " " + law, x.crowd(0, part, law), waiting > 0 ? -1 : waited);
        due("clears " + part + " " + law, x.clears(0, part, law), waiting > 0 ? -1 : clear);
    }

    private void sides() {
        int part = between(0, 3);
        if (part >= steps.length || speeds[part] <= 0) {
            return;
        }
        int minutes = between(0, 8);
        int n = between(0, 3);
        long[] row = new long[2 * minutes];
        long[][] flows = new long[2][minutes];
        for (int i = 0; i < minutes; i++) {
            row[2 * i + 1] = between(0, 100);
            flows[0][i] = flow(part, 0, 0);
            flows[1][i] = flow(part, 1, (int) row[2 * i + 1]);
            row[2 * i] = between(0, (int) Math.min(999, 2 * Math.max(flows[0][i], flows[1][i]) + 1));
        }
        Check.fill(x, 1, 1, row);
        long least = Long.MAX_VALUE;
        int begins = 0;
        for (int laws = 0; laws < 1 << minutes; laws++) {
            int changes = minutes == 0 ? 0 : Integer.bitCount((laws ^ laws >> 1) & (1 << minutes - 1) - 1);
            long waited = waited(row, flows, laws);
            boolean better = waited < least || waited == least && (laws & 1) < begins;
            if (changes <= n && better) {
                least = waited;
                begins = laws & 1;
            }
        }
        due("sides " + part + " " + n, x.sides(1, part, n), least);
        due("begins " + part + " " + n, x.begins(1, part, n), begins);
    }

    private static long waited(long[] row, long[][] flows, int laws) {
        long waiting = 0;
        long waited = 0;
        for (int i = 0; i < row.length / 2; i++) {
            waiting += row[2 * i];
            waiting -= Math.min(waiting, flows[laws >> i & 1][i]);
            waited += waiting;
        }
        return waited;
    }

    private void bands() {
        int hours = between(0, 3);
        int c = between(0, DRAW.nextBoolean() ? 30 : 9999);
        long[] row = new long[2 * hours];
        for (int i = 0; i < row.length; i++) {
            row[i] = between(0, DRAW.nextBoolean() ? 40 : 9999);
        }
        Check.fill(x, 2, 1, row);
        int sets = 1 << bands.length;
        int rows = (int) Math.pow(sets, hours);
        long least = Long.MAX_VALUE;
        int found = 0;
        // hour 0 stands highest, so that the rows come from the least on
        for (int r = 0; r < rows; r++) {
            long left = leftBy(row, r, c);
            if (left < least) {
                least = left;
                found = r;
            }
        }
        due("turn " + c, x.turn(2, c), least);
        int turnings = 0;
        for (int h = 0; h < hours; h++) {
            due("turned " + c + " " + h, x.turned(2, c, h), setOf(found, h, hours));
            turnings += h == 0 ? 0 : Integer.bitCount(setOf(found, h, hours) ^ setOf(found, h - 1, hours));
        }
        due("turnings " + c, x.turnings(2, c), turnings);
    }

    private int setOf(int row, int hour, int hours) {
        return row >> bands.length * (hours - 1 - hour) & (1 << bands.length) - 1;
    }

    private long leftBy(long[] wants, int row, int c) {
        int hours = wants.length / 2;
        long left = 0;
        for (int h = 0; h < hours; h++) {
            long up = 0;
            long down = 0;
            int set = setOf(row, h, hours);
            for (int i = 0; i < bands.length; i++) {
                up += (set >> i & 1) == 1 ? bands[i] : 0;
                down += (set >> i & 1) == 0 ? bands[i] : 0;
            }
            left += Math.max(0, wants[2 * h] - up) + Math.max(0, wants[2 * h + 1] - down);
            left += h == 0 ? 0 : (long) c * Integer.bitCount(set ^ setOf(row, h - 1, hours));
        }
        return left;
    }

    private void days() {
        int seed = between(0, 2000000000);
        int n = between(1, 20);
        int w = between(0, paces.length - 1);
        int m = between(0, DRAW.nextBoolean() ? 600 : 30);
        int lucky = 0;
        for (int i = 0; i < n; i++) {
            long draw = seed + (long) i;
            int[] byDay = speeds.clone();
            int still = 0;
            for (int p = 0; p < steps.length; p++) {
                draw = (1103515245L * draw + 12345) % 2147483648L;
                if (draw / 65536 % 100 < odds) {
                    byDay[p] = 0;
                    still |= 1 << p;
                }
            }
            if (i == 0) {
                due("drawn " + seed, x.drawn(seed), still);
            }
            Plain.Ratio time = Plain.time(steps, byDay, paces[w]);
            lucky += time != null && time.compare(Plain.Ratio.of(m, 1)) <= 0 ? 1 : 0;
        }
        due("luck " + seed, x.luck(seed, n, w, m), lucky);
    }

    // ---- counts, by going through all pairs ----

    private static void counts() {
        MovingStair x = OFTEN;
        int size = between(0, 6);
        int realSteps = between(1, 200);
        int realSpeed = between(0, 30);
        long[] row = new long[3 * size];
        for (int i = 0; i < size; i++) {
            int pace = between(1, 30);
            int way = pace > realSpeed && DRAW.nextBoolean() ? -1 : 1;
            row[3 * i] = pace;
            row[3 * i + 1] = way;
            row[3 * i + 2] = DRAW.nextInt(5) == 0 ? between(0, 300) : (long) pace * realSteps / (pace + way * realSpeed);
        }
        Check.fill(x, 0, between(1, 3), row);
        countPairs(x, row);
        countWrong(x, row);
        countWays(x, row);
        countQuestion(x, row);
        if (size >= 2) {
            countExact(x, row);
        }
    }

    private static boolean fitsAll(long[] row, int steps, int speed) {
        boolean all = true;
        for (int i = 0; i < row.length; i += 3) {
            all &= Plain.fits(steps, speed, row[i], row[i + 1], row[i + 2]);
        }
        return all;
    }

    private static void countPairs(MovingStair x, long[] row) {
        int pairs = 0;
        int firstSteps = -1;
        int firstSpeed = -1;
        Set<Integer> unlikeSteps = new HashSet<>();
        Set<Integer> unlikeSpeeds = new HashSet<>();
        for (int steps = 1; steps <= 200; steps++) {
            for (int speed = 0; speed <= 30; speed++) {
                if (fitsAll(row, steps, speed)) {
                    firstSpeed = pairs == 0 ? speed : firstSpeed;
                    firstSteps = pairs == 0 ? steps : firstSteps;
                    pairs++;
                    unlikeSteps.add(steps);
                    unlikeSpeeds.add(speed);
                }
            }
        }
        Check.due("fits", x.fits(0), pairs);
        Check.due("fit steps", x.fit(0, 0), firstSteps);
        Check.due("fit speed", x.fit(0, 1), firstSpeed);
        Check.due("unlike steps", x.unlike(0, 0), unlikeSteps.size());
        Check.due("unlike speeds", x.unlike(0, 1), unlikeSpeeds.size());
    }

    /** Some pair fits all counts but those of the set. */
    private static boolean fitsWithout(long[] row, int set) {
        for (int steps = 1; steps <= 200; steps++) {
            for (int speed = 0; speed <= 30; speed++) {
                boolean all = true;
                for (int i = 0; i < row.length && all; i += 3) {
                    all = (set >> i / 3 & 1) == 1 || Plain.fits(steps, speed, row[i], row[i + 1], row[i + 2]);
                }
                if (all) {
                    return true;
                }
            }
        }
        return false;
    }

    private static void countWrong(MovingStair x, long[] row) {
        int size = row.length / 3;
        int found = (1 << size) - 1;
        for (int set = (1 << size) - 1; set >= 0; set--) {
            if (Integer.bitCount(set) <= Integer.bitCount(found) && fitsWithout(row, set)) {
                found = set;
            }
        }
        Check.due("wrong", x.wrong(0), Integer.bitCount(found));
        Check.due("wrongs", x.wrongs(0), found);
    }

    private static void countWays(MovingStair x, long[] row) {
        int size = row.length / 3;
        int found = 0;
        for (int ways = 0; ways < 1 << size; ways++) {
            long[] other = row.clone();
            for (int i = 0; i < size; i++) {
                other[3 * i + 1] = (ways >> i & 1) == 1 ? 1 : -1;
            }
            found += fitsWithout(other, 0) ? 1 : 0;
        }
        Check.due("ways", x.ways(0), found);
    }

    private static void countQuestion(MovingStair x, long[] row) {
        int now = x.fits(0);
        int least = now;
        int asked = -1;
        for (int pace = 1; pace <= 30; pace++) {
            int[] left = new int[201];
            int worst = 0;
            for (int steps = 1; steps <= 200; steps++) {
                for (int speed = 0; speed <= 30; speed++) {
                    if (fitsAll(row, steps, speed)) {
                        worst = Math.max(worst, ++left[pace * steps / (pace + speed)]);
                    }
                }
            }
            if (worst < least) {
                least = worst;
                asked = pace;
            }
        }
        Check.due("ask", x.ask(0), asked);
        Check.due("left", x.left(0), least);
    }

    private static void countExact(MovingStair x, long[] row) {
        long above = x.exact(0, 0);
        long below = x.exact(0, 1);
        long speedAbove = x.quick(0, 0);
        long speedBelow = x.quick(0, 1);
        long divisor = row[2] * row[1] * row[3] - row[5] * row[4] * row[0];
        if (divisor == 0) {
            Check.due("exact of none", above, -1);
            Check.due("quick of none", speedBelow, -1);
            return;
        }
        Plain.Ratio steps = Plain.Ratio.of(above, below);
        Plain.Ratio speed = Plain.Ratio.of(speedAbove, speedBelow);
        Check.due("lowest terms", steps.below().longValueExact(), below);
        Check.due("lowest terms", speed.below().longValueExact(), speedBelow);
        for (int i = 0; i < 6; i += 3) {
            Plain.Ratio pace = Plain.Ratio.of(row[i], 1);
            Plain.Ratio together = pace.plus(speed.times(Plain.Ratio.of(row[i + 1], 1)));
            Check.due("exact", pace.times(steps).compare(together.times(Plain.Ratio.of(row[i + 2], 1))), 0);
        }
    }

    private static void streams() {
        MovingStair x = new MovingStair();
        for (int i = 0; i < 5000; i++) {
            int d = between(1, 999);
            int p = between(1, 99);
            int u = between(0, Math.min(99, p + 3));
            Plain.Ratio time = p <= u ? null : Plain.Ratio.of(d, p + u).plus(Plain.Ratio.of(d, p - u));
            Check.due("stream", x.stream(d, p, u, 0), time == null ? -1 : time.above().longValueExact());
            Check.due("stream", x.stream(d, p, u, 1), time == null ? -1 : time.below().longValueExact());
            Plain.Ratio pace = time == null ? null : Plain.Ratio.of(2L * d, 1).by(time);
            Check.due("still", x.still(d, p, u, 0), pace == null ? -1 : pace.above().longValueExact());
            Check.due("still", x.still(d, p, u, 1), pace == null ? -1 : pace.below().longValueExact());
            Check.due("ant", x.ant(d, p, u), ant(d, p, u));
        }
    }

    private static int ant(int d, int p, int u) {
        long come = 0;
        for (int minute = 1; minute <= 1000; minute++) {
            come += Plain.Ratio.of(p * 1000000L, d + (long) (minute - 1) * u).cut();
            if (come >= 1000000) {
                return minute;
            }
        }
        return -1;
    }
}

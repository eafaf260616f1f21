/** The edges of promises 26 to 35 and of term IV: counts, who miscounted, which way each went. */
final class CountsEdges {
    private static final int[] NO_SLOT = {-1, 4, Integer.MAX_VALUE, Integer.MIN_VALUE};
    private static final int[] NO_WHAT = {-1, 2, Integer.MAX_VALUE, Integer.MIN_VALUE};
    private static final long[] TWO = {20, 1, 40, 10, 1, 30};
    private static final long[] THREE = {20, 1, 40, 10, 1, 30, 20, -1, 120};
    private static final long[] ONE_WRONG = {20, 1, 40, 10, 1, 30, 20, -1, 120, 30, 1, 99};

    private CountsEdges() {
    }

    static void all() {
        fitting();
        fits();
        wrongRows();
        fit();
        unlike();
        wrong();
        wrongs();
        ways();
        ask();
        left();
        exactness();
        exact();
        quick();
    }

    private static MovingStair of(long... row) {
        MovingStair x = new MovingStair();
        Check.fill(x, 0, 3, row);
        return x;
    }

    /** The same count so many times. */
    private static MovingStair times(int n, long pace, long way, long counted) {
        long[] row = new long[3 * n];
        for (int i = 0; i < n; i++) {
            row[3 * i] = pace;
            row[3 * i + 1] = way;
            row[3 * i + 2] = counted;
        }
        return of(row);
    }

    // ---- term IV and promise 26 ----

    private static void fitting() {
        Words.hold("IV", "FIT: pace times STEPS by pace and SPEED together");
        // S by 1 and V, cut, is 100: S 100 by V 0, 200 (and 201, which is none) by V 1
        Check.due("STEPS to 200", of(1, 1, 100).fits(0), 2);
        Check.due("only by 200", of(1, 1, 200).fits(0), 1);
        Check.due("STEPS", of(1, 1, 200).fit(0, 0), 200);
        Check.due("beyond 200", of(1, 1, 201).fits(0), 0);
        Check.due("the most", of(30, 1, 9999).fits(0), 0);

        Words.hold("IV", "(against it: pace less SPEED; if not above 0, it does not fit)");
        // 30 S by 30 less V: 6,000 by S 200 and V 29 alone
        Check.due("just above 0", of(30, -1, 6000).fits(0), 1);
        Check.due("just above 0, STEPS", of(30, -1, 6000).fit(0, 0), 200);
        Check.due("just above 0, SPEED", of(30, -1, 6000).fit(0, 1), 29);
        // by pace 1 it must stand still, by 2 it may go by 1
        Check.due("pace 1", of(1, -1, 7).fits(0), 1);
        Check.due("pace 2", of(2, -1, 8).fits(0), 2);
        Check.due("none of 0", of(5, -1, 0).fits(0), 0);
        Check.due("all that go up to 5", of(5, 1, 0).fits(0) > 0 ? 1 : 0, 1);

        Words.hold("IV", "cut, is the count.");
        // 2 S by 5 (V 3), cut, is 1 by S 3 and 4; 2 S by 2 by S 1; by 3: 2; by 4: 2, 3; ..
        MovingStair x = of(2, 1, 1, 2, 1, 1);
        int pairs = 0;
        for (int speed = 0; speed <= 30; speed++) {
            for (int steps = 1; steps <= 200; steps++) {
                pairs += 2 * steps / (2 + speed) == 1 ? 1 : 0;
            }
        }
        Check.due("cut", x.fits(0), pairs);
        Check.due("count 0", of(1, 1, 0).fits(0), 465);
        // 30 S by 59 is 101 and 41 / 59 by S 200: the count is 101, not 102
        Check.due("not up", of(30, 1, 102, 1, 1, 6, 30, -1, 6000).fits(0), 0);
        Check.due("down", of(30, 1, 101, 1, 1, 6, 30, -1, 6000).fits(0), 1);
    }

    private static void fits() {
        Words.hold(26, "COUNTS (IV): a SLOT's row, three numbers each: pace (1 .. 30), way (1 with it, -1 against it),"
                + " steps counted (0 .. 9,999): how many pairs of STEPS (1 .. 200) and SPEED (0 .. 30) fit all.");
        Check.due("all pairs", of().fits(0), 200 * 31);
        Check.due("two", of(TWO).fits(0), 4);
        Check.due("three", of(THREE).fits(0), 1);
        Check.due("none", of(ONE_WRONG).fits(0), 0);
        Check.due("twenty", times(20, 30, 1, 30).fits(0) > 0 ? 1 : 0, 1);
        long[][] edges = {{1, 1, 5}, {30, 1, 5}, {5, -1, 5}, {5, 1, 0}, {5, 1, 9999}, {1, -1, 0}, {30, -1, 9999}};
        for (long[] edge : edges) {
            Check.due("a number at its bound", Math.min(0, of(edge).fits(0)), 0);
        }
        ends();
        again();
        for (int slot = 0; slot < 4; slot++) {
            MovingStair x = new MovingStair();
            Check.fill(x, slot, slot, THREE);
            // 120 and 40 are bytes too
            Check.due("SLOT and WIDTH " + slot, x.fits(slot), 1);
        }
    }

    /** Rows that only pairs at the ends of STEPS or of SPEED fit: {row, STEPS, SPEED, unlike STEPS}. */
    private static void ends() {
        long[][] rows = {{1, -1, 1}, {1, -1, 200}, {7, 1, 37, 28, 1, 96}};
        int[][] due = {{1, 0, 1}, {200, 0, 1}, {199, 30, 2}};
        for (int i = 0; i < rows.length; i++) {
            MovingStair x = of(rows[i]);
            Check.due("pairs", x.fits(0), due[i][2]);
            Check.due("STEPS", x.fit(0, 0), due[i][0]);
            Check.due("SPEED", x.fit(0, 1), due[i][1]);
            Check.due("unlike STEPS", x.unlike(0, 0), due[i][2]);
            Check.due("unlike SPEEDS", x.unlike(0, 1), 1);
            Check.due("wrong", x.wrong(0), 0);
            Check.due("ways", x.ways(0), waysByFits(rows[i]));
        }
        // 2 S by 2 less 1: a SPEED of -1 is none, but one of 1 and the other way would do
        MovingStair back = of(2, 1, 300);
        Check.due("a SPEED below 0", back.fits(0), 0);
        Check.due("a SPEED below 0, wrong", back.wrong(0), 1);
        Check.due("a SPEED below 0, ways", back.ways(0), 1);
    }

    /** In how many ways some pair fits, by asking fits() of every one. */
    private static int waysByFits(long[] row) {
        int found = 0;
        for (int way = 0; way < 1 << row.length / 3; way++) {
            long[] other = row.clone();
            for (int i = 0; i < row.length / 3; i++) {
                other[3 * i + 1] = (way >> i & 1) == 1 ? 1 : -1;
            }
            found += of(other).fits(0) > 0 ? 1 : 0;
        }
        return found;
    }

    /** What was asked of one row tells nothing of the next one. */
    private static void again() {
        long[][] rows = {{}, TWO, ONE_WRONG, {1, 1, 0}, {7, -1, 9999}, {5, 1, 50, 5, 1, 50}, {5, 1, 50}, THREE, {1, -1, 7}};
        MovingStair x = new MovingStair();
        for (long[] first : rows) {
            for (long[] next : rows) {
                x.row(0, 3, 0);
                Check.due("the first's", sumOf(filled(x, first)), sumOf(filled(new MovingStair(), first)));
                Check.due("the next one's", sumOf(filled(x, next)), sumOf(filled(new MovingStair(), next)));
            }
            x = new MovingStair();
        }
    }

    private static MovingStair filled(MovingStair x, long[] row) {
        x.row(0, 3, row.length);
        for (int i = 0; i < row.length; i++) {
            x.write(0, i, row[i]);
        }
        return x;
    }

    /** All that a row tells, in one number. */
    private static long sumOf(MovingStair x) {
        long sum = 0;
        long[] told = {x.ways(0), x.fits(0), x.unlike(0, 0), x.unlike(0, 1), x.ask(0), x.left(0), x.fit(0, 0), x.fit(0, 1),
            x.wrong(0), x.wrongs(0), x.exact(0, 0), x.quick(0, 0)};
        for (long one : told) {
            sum = 31 * sum + one;
        }
        return sum;
    }

    private static void allOf(MovingStair x, int slot, int want) {
        Check.due("fits(" + slot + ")", x.fits(slot), want);
        Check.due("fit(" + slot + ", 0)", x.fit(slot, 0), want);
        Check.due("fit(" + slot + ", 1)", x.fit(slot, 1), want);
        Check.due("unlike(" + slot + ", 0)", x.unlike(slot, 0), want);
        Check.due("unlike(" + slot + ", 1)", x.unlike(slot, 1), want);
        Check.due("wrong(" + slot + ")", x.wrong(slot), want);
        Check.due("wrongs(" + slot + ")", x.wrongs(slot), want);
        Check.due("ways(" + slot + ")", x.ways(slot), want);
        Check.due("ask(" + slot + ")", x.ask(slot), want);
        Check.due("left(" + slot + ")", x.left(slot), want);
        for (int what = 0; what <= 1; what++) {
            Check.due("exact(" + slot + ", " + what + ")", x.exact(slot, what), want);
            Check.due("quick(" + slot + ", " + what + ")", x.quick(slot, what), want);
        }
    }

    private static void wrongRows() {
        Words.hold(26, "-2: there is no such SLOT");
        for (int slot : NO_SLOT) {
            allOf(of(THREE), slot, -2);
        }
        Words.hold(26, "a number is none such (asked last)");
        long[][] wrong = {{0, 1, 5}, {31, 1, 5}, {-1, 1, 5}, {5, 0, 5}, {5, 2, 5}, {5, -2, 5}, {5, 1, -1}, {5, 1, 10000},
            {1L << 32 | 5, 1, 5}, {5, 1L << 32 | 1, 5}, {5, 1, 1L << 32}, {Long.MIN_VALUE, 1, 5}, {5, Long.MAX_VALUE, 5}};
        for (long[] w : wrong) {
            allOf(of(w[0], w[1], w[2], 5, 1, 5, 6, 1, 6), 0, -2);
            allOf(of(5, 1, 5, 6, 1, 6, w[0], w[1], w[2]), 0, -2);
        }
        MovingStair zeros = new MovingStair();
        zeros.row(0, 0, 60);
        allOf(zeros, 0, -2);
        Words.hold(26, "not three each");
        for (int n = 0; n <= 60; n++) {
            MovingStair x = new MovingStair();
            x.row(0, 0, n);
            for (int i = 0; i < n; i++) {
                x.write(0, i, 1);
            }
            Check.due("a row of " + n, x.fits(0) < 0 ? -2 : 0, n % 3 == 0 ? 0 : -2);
        }
        allOf(of(20, 1, 40, 10, 1), 0, -2);
        allOf(of(20, 1, 40, 10, 1, 30, 20), 0, -2);
        Words.hold(26, "-6: it has nothing.");
        for (int slot = 0; slot < 4; slot++) {
            allOf(new MovingStair(), slot, -6);
        }
    }

    // ---- promises 27 to 33 ----

    private static void fit() {
        Words.hold(27, "STEPS (what 0), SPEED (1) of the first such (the least STEPS, then the least SPEED).");
        MovingStair x = of(TWO);
        Check.due("STEPS", x.fit(0, 0), 58);
        Check.due("SPEED", x.fit(0, 1), 9);
        MovingStair empty = of();
        Check.due("the least STEPS", empty.fit(0, 0), 1);
        Check.due("the least SPEED", empty.fit(0, 1), 0);
        // 1 step by V of 1 to 30
        MovingStair zero = of(1, 1, 0);
        Check.due("the least STEPS", zero.fit(0, 0), 1);
        Check.due("then the least SPEED", zero.fit(0, 1), 1);
        // against it: the greater the SPEED, the fewer the STEPS
        MovingStair against = of(30, -1, 60);
        Check.due("the least STEPS ahead of the least SPEED", against.fit(0, 0), 2);
        Check.due("the least STEPS ahead of the least SPEED", against.fit(0, 1), 29);
        Words.hold(27, "NONE: none fits");
        Check.due("none", of(ONE_WRONG).fit(0, 0), -1);
        Check.due("none", of(ONE_WRONG).fit(0, 1), -1);
        Words.hold(27, "-2, -6 likewise, no such what.");
        for (int what : NO_WHAT) {
            Check.due("what " + what, x.fit(0, what), -2);
            Check.due("what " + what + " where none fits", of(ONE_WRONG).fit(0, what), -2);
        }
        for (int slot : NO_SLOT) {
            Check.due("slot " + slot, x.fit(slot, 0), -2);
        }
        Check.due("nothing", x.fit(3, 0), -6);
    }

    private static void unlike() {
        Words.hold(28, "How many unlike STEPS (what 0), SPEEDS (1) there are in these.");
        Check.due("STEPS", of(TWO).unlike(0, 0), 4);
        Check.due("SPEEDS", of(TWO).unlike(0, 1), 3);
        Check.due("all STEPS", of().unlike(0, 0), 200);
        Check.due("all SPEEDS", of().unlike(0, 1), 31);
        Check.due("STEPS of many pairs", of(1, 1, 0).unlike(0, 0), 30);
        Check.due("SPEEDS of many pairs", of(1, 1, 0).unlike(0, 1), 30);
        Check.due("none", of(ONE_WRONG).unlike(0, 0), 0);
        Check.due("none", of(ONE_WRONG).unlike(0, 1), 0);
        Words.hold(28, "-2, -6 likewise.");
        for (int what : NO_WHAT) {
            Check.due("what " + what, of(TWO).unlike(0, what), -2);
        }
        for (int slot : NO_SLOT) {
            Check.due("slot " + slot, of(TWO).unlike(slot, 1), -2);
        }
        Check.due("nothing", of(TWO).unlike(1, 1), -6);
        Check.due("not three each", of(1, 1).unlike(0, 1), -2);
    }

    private static void wrong() {
        Words.hold(29, "WRONG: the fewest of the counts that must be miscounted so that some pair fits all others.");
        Check.due("none of none", of().wrong(0), 0);
        Check.due("none", of(THREE).wrong(0), 0);
        Check.due("one", of(ONE_WRONG).wrong(0), 1);
        // against it by 7 with 9,999 counted none fits, not even alone
        Check.due("all of one", of(7, -1, 9999).wrong(0), 1);
        Check.due("all of twenty", times(20, 7, -1, 9999).wrong(0), 20);
        Check.due("none of twenty", times(20, 7, 1, 20).wrong(0), 0);
        Check.due("either", of(7, 1, 10, 7, 1, 20).wrong(0), 1);
        Words.hold(29, "-2, -6 as fits().");
        Check.due("number", of(7, 1, 10000).wrong(0), -2);
        Check.due("not three each", of(7, 1).wrong(0), -2);
        Check.due("nothing", of(TWO).wrong(1), -6);
        Check.due("slot", of(TWO).wrong(4), -2);
    }

    private static void wrongs() {
        Words.hold(30, "Which, as bits (of ten at most; -2: there are more)");
        Check.due("none", of(THREE).wrongs(0), 0);
        Check.due("the fourth", of(ONE_WRONG).wrongs(0), 8);
        Check.due("none of none", of().wrongs(0), 0);
        Check.due("ten", times(10, 7, -1, 9999).wrongs(0), 1023);
        Check.due("nine", times(9, 7, -1, 9999).wrongs(0), 511);
        Check.due("eleven", times(11, 7, -1, 9999).wrongs(0), -2);
        Check.due("eleven, none wrong", times(11, 7, 1, 20).wrongs(0), -2);
        Check.due("twenty", times(20, 7, 1, 20).wrongs(0), -2);
        Words.hold(30, "the least set of so few.");
        Check.due("either of two", of(7, 1, 10, 7, 1, 20).wrongs(0), 1);
        Check.due("any two of three", of(7, 1, 10, 7, 1, 20, 7, 1, 30).wrongs(0), 3);
        Check.due("two against two", of(7, 1, 10, 7, 1, 20, 7, 1, 20, 7, 1, 10).wrongs(0), 6);
        Check.due("few ahead of least", of(7, 1, 10, 7, 1, 10, 7, 1, 20).wrongs(0), 4);
        Words.hold(30, "-2, -6 likewise.");
        Check.due("number", of(7, 1, 10000).wrongs(0), -2);
        Check.due("nothing", of(TWO).wrongs(1), -6);
        Check.due("slot", of(TWO).wrongs(-1), -2);
    }

    private static void ways() {
        Words.hold(31, "WAYS: in how many of all ways (with it or against it, each count; ten at most) some pair fits,"
                + " whatever ways are told.");
        Check.due("none counted", of().ways(0), 1);
        Check.due("one", of(THREE).ways(0), 1);
        Check.due("none", of(ONE_WRONG).ways(0), 0);
        Check.due("told otherwise", of(20, -1, 40, 10, -1, 30, 20, 1, 120).ways(0), 1);
        Check.due("standing still, one", of(5, 1, 50).ways(0), 2);
        Check.due("standing still, ten", times(10, 5, 1, 50).ways(0), 1024);
        Check.due("eleven", times(11, 5, 1, 50).ways(0), -2);
        Check.due("twenty", times(20, 5, 1, 50).ways(0), -2);
        // 0 steps are counted only by who goes with it
        Check.due("with it alone", of(5, -1, 0).ways(0), 1);
        // more than 200 are counted only by who goes against it
        Check.due("against it alone", of(30, 1, 6000).ways(0), 1);
        Words.hold(31, "-2, -6 likewise.");
        Check.due("number", of(5, 0, 50).ways(0), -2);
        Check.due("nothing", of(TWO).ways(1), -6);
        Check.due("slot", of(TWO).ways(4), -2);
    }

    /** How many pairs the worst count of one more of this pace leaves, by asking fits() of every count. */
    private static int worst(long[] row, int pace) {
        MovingStair x = new MovingStair();
        x.row(0, 1, row.length + 3);
        for (int i = 0; i < row.length; i++) {
            x.write(0, i, row[i]);
        }
        x.write(0, row.length, pace);
        x.write(0, row.length + 1, 1);
        int worst = 0;
        for (int count = 0; count <= 200; count++) {
            x.write(0, row.length + 2, count);
            worst = Math.max(worst, x.fits(0));
        }
        return worst;
    }

    private static void ask() {
        Words.hold(32, "ASK: the pace (1 .. 30) of one more who goes with it, whose count leaves fewest pairs at worst,"
                + " if fewer than now, the least of several.");
        // of {11, 1, 93} one of 31 would leave fewer than any up to 30
        long[][] rows = {TWO, {30, 1, 150}, {7, -1, 9}, {1, 1, 100}, {}, {30, 1, 20, 29, 1, 20}, {3, 1, 0}, {11, 1, 93}};
        for (long[] row : rows) {
            MovingStair x = of(row);
            int least = x.fits(0);
            int asked = -1;
            for (int pace = 1; pace <= 30; pace++) {
                int worst = worst(row, pace);
                if (worst < least) {
                    least = worst;
                    asked = pace;
                }
            }
            Check.due("ask of " + row.length, x.ask(0), asked);
            Check.due("left of " + row.length, x.left(0), least);
        }
        Words.hold(32, "NONE: none");
        Check.due("one pair alone", of(THREE).ask(0), -1);
        Check.due("no pair", of(ONE_WRONG).ask(0), -1);
        Words.hold(32, "-2, -6 as fits().");
        Check.due("number", of(5, 0, 50).ask(0), -2);
        Check.due("nothing", of(TWO).ask(1), -6);
        Check.due("slot", of(TWO).ask(4), -2);
    }

    private static void left() {
        Words.hold(33, "How many it leaves at worst");
        Check.due("two", of(TWO).left(0), 2);
        // 100 by V 0 or 200 by V 1: any other pace tells them apart
        Check.due("one", of(1, 1, 100).left(0), 1);
        Words.hold(33, "(as now without)");
        Check.due("one pair alone", of(THREE).left(0), 1);
        Check.due("no pair", of(ONE_WRONG).left(0), 0);
        Words.hold(33, "-2, -6 likewise.");
        Check.due("number", of(5, 0, 50).left(0), -2);
        Check.due("nothing", of(TWO).left(1), -6);
        Check.due("slot", of(TWO).left(4), -2);
    }

    // ---- term IV and promises 34 and 35 ----

    private static void dueExact(long[] row, long above, long below, long quickAbove, long quickBelow) {
        MovingStair x = of(row);
        Check.dueFraction("exact", x.exact(0, 0), x.exact(0, 1), above, below);
        Check.dueFraction("quick", x.quick(0, 0), x.quick(0, 1), quickAbove, quickBelow);
    }

    private static void exactness() {
        Words.hold("IV", "EXACT: pace times STEPS is the count times pace and SPEED together (against it: pace less SPEED),"
                + " for both, whatever comes of it.");
        dueExact(TWO, 60, 1, 10, 1);
        dueExact(new long[] {20, 1, 40, 20, -1, 120}, 60, 1, 10, 1);
        dueExact(new long[] {20, -1, 120, 20, -1, 120}, -1, -1, -1, -1);
        // 3 S = 5 (3 + V), 2 S = 7 (2 + V)
        dueExact(new long[] {3, 1, 5, 2, 1, 7}, 35, 11, -12, 11);
        // no STEPS of a stair that is told, by the most that can be counted
        dueExact(new long[] {30, -1, 9999, 1, 1, 9999}, 9999, 1, 0, 1);
        dueExact(new long[] {30, 1, 9999, 30, -1, 9998}, 199940004, 19997, -30, 19997);
    }

    private static void exact() {
        Words.hold(34, "EXACT (IV): STEPS by two counts (rows 0 and 1 of a SLOT, not cut), above (what 0; it may be 0 or below), below (1).");
        dueExact(new long[] {20, 1, 40, 10, 1, 30, 1, 1, 9999}, 60, 1, 10, 1);
        // nothing counted by the first: no STEPS, and SPEED is the second's pace the other way
        dueExact(new long[] {3, 1, 0, 2, 1, 7}, 0, 1, -2, 1);
        dueExact(new long[] {3, 1, 0, 2, -1, 7}, 0, 1, 2, 1);
        dueExact(new long[] {3, 1, 7, 2, -1, 0}, 0, 1, -3, 1);
        stepsBelowNought();
        Words.hold(34, "NONE: no one pair is told by them");
        MovingStair none = of(20, 1, 40, 10, 1, 20);
        Check.dueFraction("no pair", none.exact(0, 0), none.exact(0, 1), -1, -1);
        MovingStair many = of(20, 1, 40, 20, 1, 40);
        Check.dueFraction("many pairs", many.exact(0, 0), many.exact(0, 1), -1, -1);
        MovingStair zeros = of(20, 1, 0, 10, 1, 0);
        Check.dueFraction("nothing counted", zeros.exact(0, 0), zeros.exact(0, 1), -1, -1);
        Words.hold(34, "-2, -6 as fits(), fewer than two, no such what.");
        Check.due("none", of().exact(0, 0), -2);
        Check.due("one", of(3, 1, 7).exact(0, 0), -2);
        Check.due("a wrong number behind", of(20, 1, 40, 10, 1, 30, 0, 1, 9).exact(0, 0), -2);
        Check.due("not three each", of(20, 1, 40, 10, 1, 30, 5).exact(0, 0), -2);
        for (int what : NO_WHAT) {
            Check.due("what " + what, of(TWO).exact(0, what), -2);
            Check.due("what " + what + " of none", none.exact(0, what), -2);
        }
        for (int slot : NO_SLOT) {
            Check.due("slot " + slot, of(TWO).exact(slot, 0), -2);
        }
        Check.due("nothing", of(TWO).exact(1, 0), -6);
    }

    /** Counts c of pace p, d of q, both with it: S = c d (q - p) / (c q - d p), V = p q (d - c) / (c q - d p). */
    private static void stepsBelowNought() {
        // 10 S = 3 (10 + V), 1 S = 2 (1 + V): S = 6 (1 - 10) / (3 - 20), V = 10 (2 - 3) / (3 - 20)
        dueExact(new long[] {10, 1, 3, 1, 1, 2}, 54, 17, 10, 17);
        // 10 S = 3 (10 + V), 1 S = 1 (1 + V): S = 3 * (1 - 10) / (3 - 10), V = 10 (1 - 3) / (3 - 10)
        dueExact(new long[] {10, 1, 3, 1, 1, 1}, 27, 7, 20, 7);
        // 1 S = 3 (1 + V), 2 S = 2 (2 + V): S = 6 (2 - 1) / (6 - 2), V = 2 (2 - 3) / (6 - 2)
        dueExact(new long[] {1, 1, 3, 2, 1, 2}, 3, 2, -1, 2);
        // 1 S = 3 (1 + V), 2 S = 7 (2 + V): S = 21 (2 - 1) / (6 - 7), V = 2 (7 - 3) / (6 - 7)
        dueExact(new long[] {1, 1, 3, 2, 1, 7}, -21, 1, -8, 1);
        // 1 S = 3 (1 - V), 2 S = 7 (2 - V): S as above, V the other way
        dueExact(new long[] {1, -1, 3, 2, -1, 7}, -21, 1, 8, 1);
    }

    private static void quick() {
        Words.hold(35, "SPEED likewise (of whatever sign).");
        dueExact(new long[] {20, 1, 40, 10, 1, 40}, 40, 1, 0, 1);
        dueExact(new long[] {1, 1, 3, 2, 1, 2}, 3, 2, -1, 2);
        // 3 S = 3 (3 + V), 2 S = 4 (2 + V)
        dueExact(new long[] {3, 1, 3, 2, 1, 4}, 2, 1, -1, 1);
        dueExact(new long[] {30, 1, 9999, 29, 1, 9998}, 33323334, 3323, 290, 3323);
        Words.hold(35, "NONE, -2, -6 likewise.");
        MovingStair none = of(20, 1, 40, 10, 1, 20);
        Check.dueFraction("no pair", none.quick(0, 0), none.quick(0, 1), -1, -1);
        MovingStair zeros = of(20, 1, 0, 10, 1, 0);
        Check.dueFraction("nothing counted", zeros.quick(0, 0), zeros.quick(0, 1), -1, -1);
        Check.due("none", of().quick(0, 0), -2);
        Check.due("one", of(3, 1, 7).quick(0, 0), -2);
        for (int what : NO_WHAT) {
            Check.due("what " + what, of(TWO).quick(0, what), -2);
        }
        for (int slot : NO_SLOT) {
            Check.due("slot " + slot, of(TWO).quick(slot, 0), -2);
        }
        Check.due("nothing", of(TWO).quick(1, 0), -6);
    }
}

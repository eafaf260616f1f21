/** The edges of promises 44 to 49 and of terms VI and VII: bands, streams, an ant on a band. */
final class BandEdges {
    private static final String HEAD = "stair odds 0;";
    private static final int[] NO_SLOT = {-1, 4, Integer.MAX_VALUE, Integer.MIN_VALUE};
    private static final int[] NO_WHAT = {-1, 2, Integer.MAX_VALUE, Integer.MIN_VALUE};

    private BandEdges() {
    }

    static void all() {
        left();
        turn();
        refused();
        turned();
        turnings();
        stream();
        still();
        ant();
        fractions();
    }

    private static MovingStair bands(String bands, long... row) {
        MovingStair x = Check.told(HEAD + bands);
        Check.fill(x, 0, 3, row);
        return x;
    }

    private static void dueTurn(MovingStair x, int c, int left, int turnings, int... sets) {
        Check.due("turn(0, " + c + ")", x.turn(0, c), left);
        Check.due("turnings(0, " + c + ")", x.turnings(0, c), turnings);
        for (int h = 0; h < sets.length; h++) {
            Check.due("turned(0, " + c + ", " + h + ")", x.turned(0, c, h), sets[h]);
        }
        Check.due("no hour more", x.turned(0, c, sets.length), -1);
    }

    // ---- term VI and promises 44 to 46 ----

    private static void left() {
        Words.hold("VI", "BANDS go up or down, each carries so many an hour");
        dueTurn(bands("band 10;", 10, 0), 0, 0, 0, 1);
        dueTurn(bands("band 10;", 11, 0), 0, 1, 0, 1);
        dueTurn(bands("band 10;", 0, 10), 0, 0, 0, 0);
        dueTurn(bands("band 10;", 10, 10), 0, 10, 0, 0);
        dueTurn(bands("band 1;band 2;band 4;band 8;", 5, 10), 0, 0, 0, 5);
        Words.hold("VI", "all at first as in hour 0.");
        // all go up in hour 0, and none has been turned
        dueTurn(bands("band 10;band 10;", 20, 0), 9999, 0, 0, 3);
        Words.hold("VI", "Left: those who want up (down) above what BANDS that go up (down) carry together, hour by hour, together");
        dueTurn(bands("band 10;band 10;", 25, 3), 0, 5 + 3, 0, 3);
        // who is left does not come again an hour later
        dueTurn(bands("band 10;", 30, 0, 0, 0), 0, 20, 1, 1, 0);
        dueTurn(bands("band 10;", 15, 0, 16, 0), 5, 5 + 6, 0, 1, 1);
        Words.hold("VI", "and c for each BAND that goes another way than an hour ahead.");
        dueTurn(bands("band 10;band 10;", 20, 0, 0, 20), 3, 6, 2, 3, 0);
        dueTurn(bands("band 10;band 10;", 20, 0, 0, 20), 9, 18, 2, 3, 0);
        dueTurn(bands("band 10;band 10;", 20, 0, 0, 20), 10, 20, 0, 0, 0);
        dueTurn(bands("band 10;band 10;", 20, 0, 0, 20), 11, 20, 0, 0, 0);
    }

    private static void turn() {
        Words.hold(44, "TURN (VI): a SLOT's row, two numbers each, hour by hour: who wants up, down (0 .. 9,999):"
                + " the least who are left, each BAND turned costing c (0 .. 9,999).");
        dueTurn(bands("", 9999, 9999, 0, 1), 9999, 19999, 0, 0, 0);
        dueTurn(bands("band 9999;", 9999, 0, 0, 9999), 9998, 9998, 1, 1, 0);
        dueTurn(bands("band 9999;", 9999, 0, 0, 9999), 9999, 9999, 0, 0, 0);
        dueTurn(bands("band 100;band 50;", 150, 0, 0, 150), 60, 50 + 60, 1, 1, 0);
        dueTurn(bands("band 5;"), 0, 0, 0);
        // no hours behind some: nothing is left of those
        MovingStair again = bands("band 5;", 9, 0, 0, 9);
        dueTurn(again, 1, 9, 1, 1, 0);
        again.row(0, 3, 0);
        dueTurn(again, 1, 0, 0);
        MovingStair x = Check.told(HEAD + "band 1;band 2;band 4;band 8;");
        x.row(0, 0, 60);
        for (int h = 0; h < 30; h++) {
            x.write(0, 2 * h, h % 2 == 0 ? 15 : 0);
            x.write(0, 2 * h + 1, h % 2 == 0 ? 0 : 15);
        }
        int[] sets = new int[30];
        for (int h = 0; h < 30; h += 2) {
            sets[h] = 15;
        }
        dueTurn(x, 0, 0, 29 * 4, sets);
        dueTurn(x, 9999, 15 * 15, 0, new int[30]);
    }

    private static void allTurns(MovingStair x, int slot, int c, int want) {
        Check.due("turn", x.turn(slot, c), want);
        Check.due("turned", x.turned(slot, c, 0), want);
        Check.due("turned beyond", x.turned(slot, c, 30), want);
        Check.due("turned ahead", x.turned(slot, c, -1), want);
        Check.due("turnings", x.turnings(slot, c), want);
    }

    private static void refused() {
        Words.hold(44, "-2: there is no such SLOT, c, STAIR");
        MovingStair x = bands("band 10;", 1, 2);
        for (int slot : NO_SLOT) {
            allTurns(x, slot, 0, -2);
        }
        for (int c : new int[] {-1, 10000, Integer.MAX_VALUE, Integer.MIN_VALUE}) {
            allTurns(x, 0, c, -2);
            allTurns(x, 1, c, -2);
        }
        MovingStair none = new MovingStair();
        allTurns(none, 0, 0, -2);
        Check.fill(none, 0, 3, 1, 2);
        allTurns(none, 0, 0, -2);
        Words.hold(44, "a number is none such (asked last)");
        for (long number : new long[] {-1, 10000, 1L << 32, Long.MIN_VALUE}) {
            allTurns(bands("band 10;", number, 1, 2, 3), 0, 0, -2);
            allTurns(bands("band 10;", 0, 1, 2, number), 0, 0, -2);
        }
        Words.hold(44, "not two each");
        allTurns(bands("band 10;", 1), 0, 0, -2);
        allTurns(bands("band 10;", 1, 2, 3), 0, 0, -2);
        Words.hold(44, "-6: it has nothing.");
        for (int slot = 1; slot < 4; slot++) {
            allTurns(x, slot, 9999, -6);
        }
    }

    private static void turned() {
        Words.hold(45, "BANDS that go up in hour h (from 0) by the first such (the least row of sets), as bits.");
        // nobody comes: no BAND goes up
        dueTurn(bands("band 10;band 10;", 0, 0, 0, 0), 0, 0, 0, 0, 0);
        // one must go up, the first rather
        dueTurn(bands("band 10;band 10;", 10, 0, 0, 0), 0, 0, 1, 1, 0);
        // one must stay: the least in hour 0 is 1, and 2 would do as well
        dueTurn(bands("band 10;band 10;", 10, 10, 10, 10), 0, 0, 0, 1, 1);
        // the least row by its first hour: 0 then 3, though 3 then 3 is left as many
        dueTurn(bands("band 10;band 10;", 0, 0, 20, 0), 0, 0, 2, 0, 3);
        dueTurn(bands("band 10;band 10;", 0, 0, 20, 0), 1, 0, 0, 3, 3);
        // all that go up
        dueTurn(bands("band 1;band 1;band 1;band 1;", 4, 0), 0, 0, 0, 15);
        Words.hold(45, "NONE: there is no such hour");
        MovingStair x = bands("band 10;", 1, 2, 1, 2);
        for (int h : new int[] {-1, 2, 3, 30, Integer.MAX_VALUE, Integer.MIN_VALUE}) {
            Check.due("hour " + h, x.turned(0, 0, h), -1);
        }
        Check.due("no hours", bands("band 10;").turned(0, 0, 0), -1);
        Words.hold(45, "-2, -6 likewise.");
        Check.due("no such hour of nothing", x.turned(1, 0, 5), -6);
        Check.due("no such hour and c", x.turned(0, 10000, 5), -2);
        Check.due("no such SLOT", x.turned(4, 0, 0), -2);
    }

    private static void turnings() {
        Words.hold(46, "How often a BAND is turned in it.");
        dueTurn(bands("band 10;band 10;", 20, 0, 0, 20, 20, 0), 0, 0, 4, 3, 0, 3);
        dueTurn(bands("band 10;", 10, 0), 0, 0, 0, 1);
        dueTurn(bands("band 10;"), 0, 0, 0);
        Words.hold(46, "-2, -6 likewise.");
        MovingStair x = bands("band 10;", 1, 2);
        Check.due("nothing", x.turnings(1, 0), -6);
        Check.due("c", x.turnings(0, -1), -2);
        Check.due("SLOT", x.turnings(-1, 0), -2);
    }

    // ---- promises 47 to 49 and term VII ----

    private static void dueStream(int d, int p, int u, long above, long below, long stillAbove, long stillBelow) {
        MovingStair x = new MovingStair();
        Check.dueFraction("stream(" + d + ", " + p + ", " + u + ")", x.stream(d, p, u, 0), x.stream(d, p, u, 1), above, below);
        Check.dueFraction("still(" + d + ", " + p + ", " + u + ")", x.still(d, p, u, 0), x.still(d, p, u, 1), stillAbove, stillBelow);
    }

    private static final int[][] NO_STREAM = {{0, 5, 1}, {1000, 5, 1}, {-1, 5, 1}, {1, 0, 0}, {1, 100, 1}, {1, -1, 0}, {1, 5, -1},
        {1, 5, 100}, {Integer.MAX_VALUE, 5, 1}, {1, Integer.MAX_VALUE, 1}, {1, 5, Integer.MAX_VALUE}, {Integer.MIN_VALUE, 5, 1},
        {1, Integer.MIN_VALUE, 1}, {1, 5, Integer.MIN_VALUE}};

    private static void stream() {
        Words.hold(47, "STREAM: the TIME for d (1 .. 999) steps there, with a stream of u (0 .. 99), and back against it,"
                + " by a pace of p (1 .. 99), above (what 0), below (1).");
        dueStream(12, 5, 1, 5, 1, 24, 5);
        dueStream(1, 1, 0, 2, 1, 1, 1);
        dueStream(999, 99, 0, 222, 11, 99, 1);
        dueStream(999, 99, 98, 197802, 197, 197, 99);
        Words.hold(47, "NONE: he never comes back");
        dueStream(1, 5, 5, -1, -1, -1, -1);
        dueStream(1, 5, 6, -1, -1, -1, -1);
        dueStream(999, 99, 99, -1, -1, -1, -1);
        dueStream(999, 1, 99, -1, -1, -1, -1);
        Words.hold(47, "-2: there are none such.");
        MovingStair x = new MovingStair();
        for (int[] n : NO_STREAM) {
            Check.due("stream(" + n[0] + ", " + n[1] + ", " + n[2] + ")", x.stream(n[0], n[1], n[2], 0), -2);
        }
        for (int what : NO_WHAT) {
            Check.due("what " + what, x.stream(1, 5, 1, what), -2);
            Check.due("what " + what + " of never", x.stream(1, 5, 5, what), -2);
        }
    }

    private static void still() {
        Words.hold("VII", "Still: 2 d by that pace is as long.");
        // 10 / 5 and 10 / 1 are 12 minutes: 20 steps by 5 / 3
        dueStream(10, 3, 2, 12, 1, 5, 3);
        Words.hold(48, "What the pace in a still water would be (VII), by which it takes as long, above, below.");
        dueStream(7, 30, 0, 7, 15, 30, 1);
        dueStream(7, 2, 1, 28, 3, 3, 2);
        Words.hold(48, "NONE, -2 likewise.");
        MovingStair x = new MovingStair();
        Check.dueFraction("never", x.still(1, 5, 5, 0), x.still(1, 5, 99, 1), -1, -1);
        for (int[] n : NO_STREAM) {
            Check.due("still(" + n[0] + ", " + n[1] + ", " + n[2] + ")", x.still(n[0], n[1], n[2], 0), -2);
        }
        for (int what : NO_WHAT) {
            Check.due("what " + what, x.still(1, 5, 1, what), -2);
            Check.due("what " + what + " of never", x.still(1, 5, 5, what), -2);
        }
    }

    private static void ant() {
        Words.hold("VII", "ANT: in each minute it comes on by p times a million by the band's length, cut, of a million");
        MovingStair x = new MovingStair();
        Check.due("all at once", x.ant(1, 1, 0), 1);
        Check.due("a third, cut, thrice is not all", x.ant(3, 1, 0), 4);
        Check.due("a half twice", x.ant(2, 1, 0), 2);
        Words.hold("VII", "(then the band is longer, all of it alike)");
        // 1/2, 1/3, 1/4; 1/2, 1/4, 1/6, 1/8
        Check.due("by 1", x.ant(2, 1, 1), 3);
        Check.due("by 2", x.ant(2, 1, 2), 4);
        Check.due("not in the first minute", x.ant(99, 99, 99), 1);
        // 2 / 3 and 2 / 6 of a million, each cut, are one short of it
        Check.due("cut each minute", x.ant(3, 2, 3), 3);
        Words.hold(49, "BAND of rubber: the minute (1 .. 1,000) in which an ant of p (1 .. 99) a minute is at the end of a band"
                + " of d (1 .. 999), longer by u (0 .. 99) behind each minute (VII).");
        Check.due("the first", x.ant(99, 99, 99), 1);
        Check.due("the second", x.ant(100, 99, 0), 2);
        Check.due("the last", x.ant(111, 8, 51), 1000);
        Check.due("1,001 of a million each", x.ant(999, 1, 0), 1000);
        Check.due("the greatest", x.ant(999, 99, 0), 11);
        Check.due("the greatest, longer", x.ant(999, 99, 99), 17);
        Words.hold(49, "NONE: not in so many");
        Check.due("a minute too late", x.ant(102, 5, 29), -1);
        Check.due("far too late", x.ant(999, 1, 99), -1);
        Words.hold(49, "-2: there are none such.");
        for (int[] n : NO_STREAM) {
            Check.due("ant(" + n[0] + ", " + n[1] + ", " + n[2] + ")", x.ant(n[0], n[1], n[2]), -2);
        }
    }

    private static void fractions() {
        Words.hold("VII", "FRACTIONS are told in lowest terms, what is below above 0 (0 / 1).");
        dueStream(6, 4, 2, 4, 1, 3, 1);
        MovingStair x = Check.told(HEAD + "part steps 60 moves 10;walker pace 20;walker pace 2;sides stand 4 walk 1 pace 1 would 0;");
        Check.dueFraction("time", x.time(0, 0), x.time(0, 1), 2, 1);
        Check.dueFraction("spends", x.spends(0, 0, 0), x.spends(0, 0, 1), 2, 1);
        Check.dueFraction("steps", x.steps(0, 0), x.steps(0, 1), 40, 1);
        Check.dueFraction("back", x.back(0, 0), x.back(0, 1), 6, 1);
        Check.dueFraction("lace", x.lace(0, 3, 0), x.lace(0, 3, 1), 4, 1);
        Check.dueFraction("saves", x.saves(0, 0, 0), x.saves(0, 0, 1), 0, 1);
        Check.dueFraction("spurt", x.spurt(0, 30, 60, 0), x.spurt(0, 30, 60, 1), 1, 1);
        Check.dueFraction("stand", x.stand(0, 0), x.stand(0, 1), 5, 1);
        Check.dueFraction("walk", x.walk(0, 0), x.walk(0, 1), 5, 2);
        MovingStair none = Check.told(HEAD + "walker pace 20;");
        Check.dueFraction("time of no PARTS", none.time(0, 0), none.time(0, 1), 0, 1);
        // told by a determinant below 0, and by one above
        Check.fill(x, 0, 1, 10, 1, 30, 20, 1, 40);
        Check.dueFraction("exact", x.exact(0, 0), x.exact(0, 1), 60, 1);
        Check.dueFraction("quick", x.quick(0, 0), x.quick(0, 1), 10, 1);
        Check.fill(x, 0, 1, 3, 1, 0, 2, 1, 7);
        Check.dueFraction("exact of 0", x.exact(0, 0), x.exact(0, 1), 0, 1);
        Check.fill(x, 0, 1, 3, 1, 7, 2, 1, 7);
        Check.dueFraction("quick of 0", x.quick(0, 0), x.quick(0, 1), 0, 1);
    }
}

/** The edges of promises 36 to 43 and of term V: standing or walking, crowds, sides that change. */
final class CrowdEdges {
    private static final String HEAD = "stair odds 0;";
    /** PART 0 goes by 10, PART 1 stands still, PART 2 goes back. */
    private static final String PARTS = HEAD + "part steps 60 moves 10;part steps 30 moves 0;part steps 20 moves 5 back;";
    /** Standing 5 and 5 a minute, walking 10. */
    private static final String SIDED = PARTS + "sides stand 2 walk 3 pace 20 would ";
    private static final int[] OUT = {-1, 3, 4, Integer.MAX_VALUE, Integer.MIN_VALUE};
    private static final int[] NO_WHAT = {-1, 2, Integer.MAX_VALUE, Integer.MIN_VALUE};

    private CrowdEdges() {
    }

    static void all() {
        flows();
        waiting();
        stand();
        walk();
        more();
        enough();
        crowd();
        clears();
        sides();
        begins();
    }

    private static MovingStair sided(int would) {
        return Check.told(SIDED + would + ";");
    }

    // ---- term V ----

    private static void dueWalk(int would, long above, long below) {
        MovingStair x = sided(would);
        Check.dueFraction("walk by " + would, x.walk(0, 0), x.walk(0, 1), above, below);
    }

    private static void flows() {
        Words.hold("V", "Both sides standing: 2 times SPEED by stand.");
        MovingStair x = Check.told(HEAD + "part steps 1 moves 30;part steps 1 moves 1;sides stand 9 walk 1 pace 1 would 1;");
        Check.dueFraction("most", x.stand(0, 0), x.stand(0, 1), 20, 3);
        Check.dueFraction("least", x.stand(1, 0), x.stand(1, 1), 2, 9);

        Words.hold("V", "One side walking: on one SPEED by stand, on the other SPEED and pace together by walk, as far as there are those who would");
        // 5 stand and 10 walk a minute: both sides are full by 200 / 3 in a hundred
        dueWalk(66, 250, 17);
        dueWalk(67, 1000, 67);
        Words.hold("V", "both sides are used so that of all just so many in a hundred walk, as many as can be");
        dueWalk(1, 500, 99);
        dueWalk(50, 10, 1);
        dueWalk(99, 1000, 99);
        // both full at once: 3 stand and 3 walk of 6
        x = Check.told(HEAD + "part steps 1 moves 9;sides stand 3 walk 5 pace 6 would 50;");
        Check.dueFraction("both full", x.walk(0, 0), x.walk(0, 1), 6, 1);
        // 1 / 9 stand and 31 walk a minute: even one in a hundred holds the others back
        x = Check.told(HEAD + "part steps 1 moves 1;sides stand 9 walk 1 pace 30 would 99;");
        Check.dueFraction("few stand, and slowly", x.walk(0, 0), x.walk(0, 1), 100, 9);
        Words.hold("V", "(would 0: the standing one alone; 100: the other alone)");
        dueWalk(0, 5, 1);
        dueWalk(100, 10, 1);
    }

    private static void waiting() {
        Words.hold("V", "CROWD: in each minute those who come are there first, then as many go as FLOW (cut) lets");
        // 25 / 3 a minute by 40 in a hundred, cut 8
        MovingStair x = sided(40);
        Check.fill(x, 0, 1, 8, 8, 8);
        Check.due("as many as go", x.crowd(0, 0, 1), 0);
        Check.fill(x, 0, 1, 9, 8, 8);
        Check.due("one more waits on", x.crowd(0, 0, 1), 3);
        Check.fill(x, 0, 1, 9, 8, 7);
        Check.due("until there is room", x.crowd(0, 0, 1), 2);
        Words.hold("V", "who does not go waits a minute.");
        Check.fill(x, 0, 1, 9);
        Check.due("one, a minute", x.crowd(0, 0, 1), 1);
        Check.fill(x, 0, 1, 17);
        Check.due("nine, then one", x.crowd(0, 0, 1), 10);
        Check.fill(x, 0, 1, 0, 0, 17);
        Check.due("later", x.crowd(0, 0, 1), 10);
    }

    // ---- promises 36 to 39 ----

    private static void stand() {
        Words.hold(36, "FLOW (V) of a PART, both sides standing, in a minute, above (what 0), below (1).");
        MovingStair x = sided(40);
        Check.dueFraction("stand", x.stand(0, 0), x.stand(0, 1), 10, 1);
        Words.hold(36, "NONE: it does not go forward");
        for (int part = 1; part <= 2; part++) {
            Check.dueFraction("part " + part, x.stand(part, 0), x.stand(part, 1), -1, -1);
        }
        x.set(1, 1);
        Check.dueFraction("just forward", x.stand(1, 0), x.stand(1, 1), 1, 1);
        x.set(0, 0);
        Check.dueFraction("no more", x.stand(0, 0), x.stand(0, 1), -1, -1);
        Words.hold(36, "-2: there are none such, no SIDES.");
        for (int part : OUT) {
            Check.due("part " + part, x.stand(part, 0), -2);
        }
        for (int what : NO_WHAT) {
            Check.due("what " + what, x.stand(1, what), -2);
            Check.due("what " + what + " of a still one", x.stand(0, what), -2);
        }
        MovingStair bare = Check.told(PARTS);
        for (int part = 0; part <= 2; part++) {
            Check.due("no SIDES", bare.stand(part, 0), -2);
        }
        Check.due("no STAIR", new MovingStair().stand(0, 0), -2);
    }

    private static void walk() {
        Words.hold(37, "FLOW, one side walking, by how many would walk, above, below.");
        MovingStair x = sided(40);
        Check.dueFraction("walk", x.walk(0, 0), x.walk(0, 1), 25, 3);
        x.set(0, 1);
        Check.dueFraction("just forward", x.walk(0, 0), x.walk(0, 1), 5, 6);
        x.undo();
        Words.hold(37, "NONE, -2 likewise.");
        for (int part = 1; part <= 2; part++) {
            Check.dueFraction("part " + part, x.walk(part, 0), x.walk(part, 1), -1, -1);
        }
        for (int part : OUT) {
            Check.due("part " + part, x.walk(part, 0), -2);
        }
        for (int what : NO_WHAT) {
            Check.due("what " + what, x.walk(0, what), -2);
            Check.due("what " + what + " of a still one", x.walk(1, what), -2);
        }
        Check.due("no SIDES", Check.told(PARTS).walk(0, 0), -2);
        Check.due("no SIDES, a still one", Check.told(PARTS).walk(1, 0), -2);
        Check.due("no STAIR", new MovingStair().walk(0, 0), -2);
    }

    private static void more() {
        Words.hold(38, "Which is more: 1 walking, 0 alike, -1 standing.");
        Check.due("standing", sided(49).more(0), -1);
        Check.due("alike", sided(50).more(0), 0);
        Check.due("walking", sided(51).more(0), 1);
        Check.due("walking", sided(99).more(0), 1);
        Check.due("alike again", sided(100).more(0), 0);
        Check.due("nobody", sided(0).more(0), -1);
        Words.hold(38, "-2 likewise, it does not go forward.");
        MovingStair x = sided(50);
        x.set(0, 1);
        Check.due("just forward", x.more(0), 0);
        Check.due("still", x.more(1), -2);
        Check.due("back", x.more(2), -2);
        for (int part : OUT) {
            Check.due("part " + part, x.more(part), -2);
        }
        Check.due("no SIDES", Check.told(PARTS).more(0), -2);
        Check.due("no STAIR", new MovingStair().more(0), -2);
    }

    private static void enough() {
        Words.hold(39, "The least number in a hundred that would walk (0 .. 100) by which walking is no less.");
        Check.due("half, whatever would", sided(0).enough(0), 50);
        Check.due("half, whatever would", sided(100).enough(0), 50);
        // standing 30 / 9 on a side, walking 31 and more: by 50 the standing side alone is as much as both
        MovingStair x = Check.told(HEAD + "part steps 1 moves 30;sides stand 9 walk 1 pace 1 would 3;");
        Check.due("half", x.enough(0), 50);
        Words.hold(39, "NONE: by none");
        x = Check.told(HEAD + "part steps 1 moves 10;sides stand 1 walk 9 pace 1 would 0;");
        Check.due("by none", x.enough(0), -1);
        // walking a little less than standing on the other side, so that both are never as much as two
        x = Check.told(HEAD + "part steps 1 moves 10;sides stand 2 walk 3 pace 4 would 0;");
        Check.due("by none", x.enough(0), -1);
        x = Check.told(HEAD + "part steps 1 moves 10;sides stand 2 walk 3 pace 5 would 0;");
        Check.due("just", x.enough(0), 50);
        Words.hold(39, "-2 likewise.");
        x = sided(50);
        x.set(0, 1);
        Check.due("just forward", x.enough(0), 50);
        Check.due("still", x.enough(1), -2);
        Check.due("back", x.enough(2), -2);
        for (int part : OUT) {
            Check.due("part " + part, x.enough(part), -2);
        }
        Check.due("no SIDES", Check.told(PARTS).enough(0), -2);
        Check.due("no STAIR", new MovingStair().enough(0), -2);
    }

    // ---- promises 40 and 41 ----

    private static void dueCrowd(MovingStair x, int law, long waits, int clears) {
        Check.due("crowd by law " + law, x.crowd(0, 0, law), waits);
        Check.due("clears by law " + law, x.clears(0, 0, law), clears);
    }

    private static void crowd() {
        Words.hold(40, "CROWD: a SLOT's row, who comes minute by minute (0 .. 999 each): how many minutes all wait together,"
                + " a PART both sides standing (law 0), one walking (1) (V).");
        MovingStair x = sided(40);
        Check.fill(x, 0, 1, 12, 10, 0);
        dueCrowd(x, 0, 4, 3);
        dueCrowd(x, 1, 10, 3);
        Check.fill(x, 0, 1, 999);
        // 989, 979, .. 9
        dueCrowd(x, 0, 99 * (989 + 9) / 2, 100);
        x.row(0, 3, 0);
        dueCrowd(x, 0, 0, 0);
        x.row(0, 3, 60);
        dueCrowd(x, 1, 0, 0);
        MovingStair slow = Check.told(HEAD + "part steps 1 moves 1;sides stand 2 walk 1 pace 1 would 0;");
        slow.row(0, 1, 60);
        for (int i = 0; i < 60; i++) {
            slow.write(0, i, 999);
        }
        // 998 m behind minute m, then one less each minute
        dueCrowd(slow, 0, 998L * 1830 + 59879L * 59880 / 2, 59940);

        Words.hold(40, "NONE: some wait for ever");
        // half a minute's one, cut 0: nobody goes
        dueCrowd(fill(slow, 0, 1), 1, -1, -1);
        dueCrowd(fill(slow, 1, 0, 0), 1, -1, -1);
        dueCrowd(fill(slow, 0, 0), 1, 0, 0);
        refuseCrowd();
    }

    private static MovingStair fill(MovingStair x, long... row) {
        Check.fill(x, 0, 3, row);
        return x;
    }

    private static void allCrowds(MovingStair x, int slot, int part, int want) {
        for (int law = 0; law <= 1; law++) {
            Check.due("crowd", x.crowd(slot, part, law), want);
            Check.due("clears", x.clears(slot, part, law), want);
        }
    }

    private static void allSides(MovingStair x, int slot, int part, int want) {
        for (int n = 0; n <= 3; n++) {
            Check.due("sides", x.sides(slot, part, n), want);
            Check.due("begins", x.begins(slot, part, n), want);
        }
    }

    private static void refuseCrowd() {
        Words.hold(40, "-2: there are none such, no SIDES");
        MovingStair x = fill(sided(40), 12, 10);
        for (int part : OUT) {
            allCrowds(x, 0, part, -2);
        }
        for (int slot : new int[] {-1, 4, Integer.MAX_VALUE, Integer.MIN_VALUE}) {
            allCrowds(x, slot, 0, -2);
        }
        for (int law : NO_WHAT) {
            Check.due("law " + law, x.crowd(0, 0, law), -2);
            Check.due("law " + law, x.clears(0, 0, law), -2);
            Check.due("law " + law + " of nothing", x.crowd(1, 0, law), -2);
        }
        allCrowds(fill(Check.told(PARTS), 12, 10), 0, 0, -2);
        allCrowds(Check.told(PARTS), 0, 0, -2);
        allCrowds(fill(new MovingStair(), 12, 10), 0, 0, -2);
        Words.hold(40, "a number is none such (asked last)");
        long[] wrong = {-1, 1000, Long.MAX_VALUE, Long.MIN_VALUE, 1L << 32};
        for (long number : wrong) {
            allCrowds(fill(x, number, 1, 2), 0, 0, -2);
            allCrowds(fill(x, 1, number, 2), 0, 0, -2);
            allCrowds(fill(x, 1, 2, number), 0, 0, -2);
        }
        Words.hold(40, "the PART does not go forward");
        allCrowds(fill(x, 12, 10), 0, 1, -2);
        allCrowds(x, 0, 2, -2);
        allCrowds(x, 1, 1, -2);
        Words.hold(40, "-6: it has nothing.");
        for (int slot = 1; slot < 4; slot++) {
            allCrowds(x, slot, 0, -6);
        }
    }

    private static void clears() {
        Words.hold(41, "The first minute (from 1) behind which, and behind all later ones, nobody waits (0: nobody ever does).");
        MovingStair x = sided(40);
        dueCrowd(fill(x, 10, 10, 10), 0, 0, 0);
        dueCrowd(fill(x, 11), 0, 1, 2);
        dueCrowd(fill(x, 11, 9, 10), 0, 1, 2);
        dueCrowd(fill(x, 11, 9, 11, 9), 0, 2, 4);
        dueCrowd(fill(x, 11, 9, 10, 11), 0, 2, 5);
        dueCrowd(fill(x, 30), 0, 30, 3);
        dueCrowd(fill(x, 31), 0, 33, 4);
        Words.hold(41, "NONE, -2, -6 likewise.");
        MovingStair slow = Check.told(HEAD + "part steps 1 moves 1;sides stand 3 walk 1 pace 1 would 50;");
        Check.due("for ever", fill(slow, 1).clears(0, 0, 0), -1);
        Check.due("no such part", x.clears(0, 3, 0), -2);
        Check.due("still", x.clears(0, 1, 0), -2);
        Check.due("nothing", x.clears(3, 0, 0), -6);
    }

    // ---- promises 42 and 43 ----

    private static void dueSides(MovingStair x, int n, long waits, int begins) {
        Check.due("sides by " + n, x.sides(0, 0, n), waits);
        Check.due("begins by " + n, x.begins(0, 0, n), begins);
    }

    private static void sides() {
        Words.hold(42, "SIDES: a SLOT's row, two numbers each, minute by minute: who comes (0 .. 999),"
                + " how many in a hundred would walk then (0 .. 100)");
        MovingStair x = sided(0);
        // standing 10; walking by 0: 5, by 60: 12, by 66: 14, by 100: 10
        dueSides(fill(x, 14, 66), 0, 0, 1);
        dueSides(fill(x, 15, 66), 0, 1, 1);
        dueSides(fill(x, 14, 0), 0, 4, 0);
        dueSides(fill(x, 14, 100), 0, 4, 0);
        dueSides(fill(x, 999, 0), 0, 989, 0);
        dueSides(fill(x, 0, 100, 999, 100), 0, 989, 0);
        Words.hold(42, "the least they wait together in these minutes (as told behind each)");
        dueSides(fill(x, 30, 0), 0, 20, 0);
        dueSides(fill(x, 30, 0, 0, 0), 0, 30, 0);
        dueSides(fill(x), 3, 0, 0);
        Words.hold(42, "if the law may be changed n (0 .. 3) times from minute to minute (and be any at first).");
        fill(x, 12, 60, 10, 0, 12, 60, 10, 0, 12, 60);
        dueSides(x, 0, 2 + 2 + 4 + 4 + 6, 0);
        // walking at first, then standing for good
        dueSides(x, 1, 0 + 0 + 2 + 2 + 4, 1);
        // walking again in the last minute
        dueSides(x, 2, 0 + 0 + 2 + 2 + 2, 1);
        // walking in minutes 1 and 3, standing in the others
        dueSides(x, 3, 0 + 0 + 0 + 0 + 2, 1);
        longest();
        refuseSides();
    }

    private static void longest() {
        MovingStair x = sided(0);
        x.row(0, 1, 60);
        for (int i = 0; i < 30; i++) {
            boolean walk = i < 10 || i >= 29;
            x.write(0, 2 * i, walk ? 12 : 10);
            x.write(0, 2 * i + 1, walk ? 60 : 0);
        }
        dueSides(x, 0, 2 * (1 + 2 + 3 + 4 + 5 + 6 + 7 + 8 + 9 + 10) + 20 * 19 + 22, 0);
        dueSides(x, 1, 2, 1);
        dueSides(x, 2, 0, 1);
        dueSides(x, 3, 0, 1);
    }

    private static void refuseSides() {
        Words.hold(42, "-2, -6 as crowd(), no such n, not two each.");
        MovingStair x = fill(sided(40), 12, 10);
        for (int n : new int[] {-1, 4, Integer.MAX_VALUE, Integer.MIN_VALUE}) {
            Check.due("n " + n, x.sides(0, 0, n), -2);
            Check.due("n " + n, x.begins(0, 0, n), -2);
            Check.due("n " + n + " of nothing", x.sides(1, 0, n), -2);
        }
        for (int part : OUT) {
            allSides(x, 0, part, -2);
        }
        for (int slot : new int[] {-1, 4, Integer.MAX_VALUE, Integer.MIN_VALUE}) {
            allSides(x, slot, 0, -2);
        }
        allSides(x, 0, 1, -2);
        allSides(x, 0, 2, -2);
        allSides(x, 1, 2, -2);
        allSides(fill(Check.told(PARTS), 12, 10), 0, 0, -2);
        allSides(x, 3, 0, -6);
        allSides(fill(x, 12), 0, 0, -2);
        allSides(fill(x, 12, 10, 3), 0, 0, -2);
        long[][] wrong = {{-1, 0}, {1000, 0}, {0, -1}, {0, 101}, {1L << 32, 0}, {0, 1L << 32}};
        for (long[] w : wrong) {
            allSides(fill(x, w[0], w[1], 5, 5), 0, 0, -2);
            allSides(fill(x, 5, 5, w[0], w[1]), 0, 0, -2);
        }
    }

    private static void begins() {
        Words.hold(43, "The law at first by which it is (0 rather).");
        MovingStair x = sided(0);
        dueSides(fill(x, 3, 0, 3, 0), 0, 0, 0);
        dueSides(fill(x, 12, 60), 0, 0, 1);
        dueSides(fill(x, 12, 50), 0, 2, 0);
        // standing at first or walking at first: alike, if the law may be changed
        dueSides(fill(x, 5, 0, 12, 60), 1, 0, 0);
        dueSides(fill(x, 5, 0, 12, 60), 0, 0, 1);
        Words.hold(43, "-2, -6 likewise.");
        Check.due("nothing", x.begins(2, 0, 0), -6);
        Check.due("no such n", x.begins(0, 0, 4), -2);
        Check.due("not two each", fill(x, 3).begins(0, 0, 0), -2);
    }
}

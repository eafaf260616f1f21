/** The edges of promises 50 to 56, 58 and 59 and of the days of term VII: acts, days drawn, images. */
final class ActsEdges {
    private static final String PARTS = "part steps 60 moves 10;part steps 30 moves 0;part steps 20 moves 5 back;";
    private static final String WAY = "stair odds 50;" + PARTS + "walker pace 20;walker pace 5;";
    private static final int[] OUT = {-1, 3, 4, Integer.MAX_VALUE, Integer.MIN_VALUE};

    private ActsEdges() {
    }

    static void all() {
        set();
        reverse();
        undo();
        anew();
        draws();
        drawn();
        luck();
        grow();
        image();
        back();
    }

    private static void speeds(MovingStair x, int... due) {
        for (int part = 0; part < due.length; part++) {
            Check.due("SPEED of " + part, x.part(part, 1), due[part]);
        }
    }

    /** So many acts that change PART 0 alone, the last to the SPEED of their number modulo 31. */
    private static void act(MovingStair x, int times) {
        for (int i = 1; i <= times; i++) {
            Check.due("act " + i, x.set(0, i % 31), i == 1 ? 10 : (i - 1) % 31);
        }
    }

    // ---- promises 50 to 53 ----

    private static void set() {
        Words.hold(50, "A PART goes by a SPEED (-30 .. 30) from now on: what it was.");
        MovingStair x = Check.told(WAY);
        Check.due("least", x.set(0, -30), 10);
        Check.due("most", x.set(0, 30), -30);
        Check.due("none", x.set(2, 0), -5);
        Check.due("as it was", x.set(2, 0), 0);
        speeds(x, 30, 0, 0);
        Check.due("acts", x.count(6), 4);
        Check.dueFraction("from now on", x.time(0, 0), x.time(0, 1), 37, 10);

        Words.hold(50, "-1,005: there were 60 acts");
        x = Check.told(WAY);
        act(x, 60);
        Check.due("full", x.set(0, 7), -1005);
        Check.due("full, another PART", x.set(1, 7), -1005);
        Check.due("acts", x.count(6), 60);
        speeds(x, 60 % 31, 0, -5);
        x.undo();
        Check.due("room for one", x.set(1, 7), 0);
        Check.due("full", x.set(1, 8), -1005);

        Words.hold(50, "-1,000: there are none such.");
        for (int part : OUT) {
            Check.due("part " + part, x.set(part, 0), -1000);
        }
        for (int speed : new int[] {-31, 31, Integer.MAX_VALUE, Integer.MIN_VALUE}) {
            Check.due("speed " + speed, x.set(0, speed), -1000);
        }
        Check.due("acts", x.count(6), 60);
        x = Check.told(WAY);
        for (int speed : new int[] {-31, 31, Integer.MAX_VALUE, Integer.MIN_VALUE}) {
            Check.due("speed " + speed, x.set(0, speed), -1000);
        }
        Check.due("no act", x.count(6), 0);
        speeds(x, 10, 0, -5);
        Check.due("no PARTS", Check.told("stair odds 0;").set(0, 0), -1000);
        Check.due("no STAIR", new MovingStair().set(0, 0), -1000);
    }

    private static void reverse() {
        Words.hold(51, "All PARTS turn round: how many go back now.");
        MovingStair x = Check.told(WAY);
        Check.due("one, the still one does not", x.reverse(), 1);
        speeds(x, -10, 0, 5);
        Check.due("one again", x.reverse(), 1);
        speeds(x, 10, 0, -5);
        Check.due("four", Check.told("stair odds 0;" + "part steps 1 moves 30;".repeat(4)).reverse(), 4);
        Check.due("the slowest two", Check.told("stair odds 0;" + "part steps 1 moves 1;".repeat(2)).reverse(), 2);
        MovingStair none = Check.told("stair odds 0;");
        Check.due("no PARTS", none.reverse(), 0);
        Check.due("an act", none.count(6), 1);

        Words.hold(51, "-5: there were 60 acts");
        x = Check.told(WAY);
        act(x, 59);
        Check.due("the sixtieth", x.reverse(), 1);
        Check.due("full", x.reverse(), -5);
        Check.due("acts", x.count(6), 60);
        speeds(x, -(59 % 31), 0, 5);

        Words.hold(51, "-2: there is no STAIR.");
        Check.due("no STAIR", new MovingStair().reverse(), -2);
    }

    private static void undo() {
        Words.hold(52, "The latest act is taken back: how many there are.");
        MovingStair x = Check.told(WAY);
        x.set(0, 3);
        x.reverse();
        x.set(0, 7);
        Check.due("two left", x.undo(), 2);
        speeds(x, -3, 0, 5);
        Check.due("one left", x.undo(), 1);
        speeds(x, 3, 0, -5);
        Check.due("none left", x.undo(), 0);
        speeds(x, 10, 0, -5);
        Check.due("count", x.count(6), 0);
        act(x, 60);
        Check.due("of sixty", x.undo(), 59);
        speeds(x, 59 % 31, 0, -5);

        Words.hold(52, "-5: there is none");
        x = Check.told(WAY);
        Check.due("none yet", x.undo(), -5);
        x.grow(0, 3);
        Check.due("growing is none", x.undo(), -5);
        Check.due("grown all the same", x.walker(0), 3);
        x.reverse();
        x.undo();
        Check.due("none any more", x.undo(), -5);
        x.reverse();
        x.anew();
        Check.due("all taken back", x.undo(), -5);

        Words.hold(52, "-2: there is no STAIR.");
        Check.due("no STAIR", new MovingStair().undo(), -2);
    }

    private static void anew() {
        Words.hold(53, "All are: how many there were.");
        MovingStair x = Check.told(WAY);
        Check.due("none", x.anew(), 0);
        x.set(2, 30);
        x.reverse();
        x.set(1, 30);
        Check.due("three", x.anew(), 3);
        speeds(x, 10, 0, -5);
        Check.due("count", x.count(6), 0);
        act(x, 60);
        Check.due("sixty", x.anew(), 60);
        speeds(x, 10, 0, -5);
        x.grow(1, 9);
        Check.due("none", x.anew(), 0);
        Check.due("growing stays", x.walker(1), 9);

        Words.hold(53, "-2 likewise.");
        Check.due("no STAIR", new MovingStair().anew(), -2);
    }

    // ---- days ----

    /** The draws of some seeds, told once by hand. */
    private static final int[][] DRAWS = {{0, 0, 68, 88, 17}, {1, 38, 58, 13, 15}, {2, 8, 17, 39, 14}, {7, 64, 6, 68, 74},
        {100, 62, 92, 61, 18}, {1999999999, 33, 43, 96, 9}, {2000000000, 4, 33, 21, 7}};

    private static int below(int[] draws, int odds, int parts) {
        int bits = 0;
        for (int part = 0; part < parts; part++) {
            bits |= draws[part + 1] < odds ? 1 << part : 0;
        }
        return bits;
    }

    private static void draws() {
        Words.hold("VII", "DRAWS: x becomes (1103515245 x + 12345) modulo 2,147,483,648 (at first it is the seed);"
                + " a draw: x / 65536, cut, modulo 100.");
        for (int odds = 0; odds <= 100; odds++) {
            MovingStair x = Check.told("stair odds " + odds + ";" + "part steps 1 moves 1;".repeat(4));
            for (int[] draws : DRAWS) {
                Check.due("seed " + draws[0] + " by " + odds, x.drawn(draws[0]), below(draws, odds, 4));
            }
        }
        Words.hold("VII", "DAY: for each PART a draw: below odds it stands still that day.");
        for (int parts = 0; parts <= 4; parts++) {
            MovingStair x = Check.told("stair odds 39;" + "part steps 1 moves 1;".repeat(parts));
            for (int[] draws : DRAWS) {
                Check.due("seed " + draws[0] + " of " + parts, x.drawn(draws[0]), below(draws, 39, parts));
            }
        }
        Check.due("38 below 39", Check.told("stair odds 39;part steps 1 moves 1;").drawn(1), 1);
        Check.due("38 not below 38", Check.told("stair odds 38;part steps 1 moves 1;").drawn(1), 0);
        Check.due("0 not below 0", Check.told("stair odds 0;part steps 1 moves 1;").drawn(0), 0);
        Check.due("0 below 1", Check.told("stair odds 1;part steps 1 moves 1;").drawn(0), 1);
    }

    private static void drawn() {
        Words.hold(54, "DAY drawn (VII) from a seed (0 .. 2,000,000,000): PARTS that stand still, as bits.");
        MovingStair x = Check.told("stair odds 100;" + "part steps 1 moves 1;".repeat(4));
        Check.due("all, least seed", x.drawn(0), 15);
        Check.due("all, most seed", x.drawn(2000000000), 15);
        x = Check.told("stair odds 50;part steps 1 moves 0;part steps 1 moves 0;");
        Check.due("a still one is drawn too", x.drawn(0), 1);
        Check.due("no PARTS", Check.told("stair odds 100;").drawn(0), 0);
        Words.hold(54, "-2: there is none such, no STAIR.");
        for (int seed : new int[] {-1, 2000000001, Integer.MAX_VALUE, Integer.MIN_VALUE}) {
            Check.due("seed " + seed, x.drawn(seed), -2);
        }
        Check.due("no STAIR", new MovingStair().drawn(0), -2);
    }

    private static void luck() {
        Words.hold(55, "Of n (1 .. 20) such from seeds, the seed and 1, .., on how many a WALKER (SPEED of those that stand still 0)"
                + " is there within m (0 .. 600) minutes.");
        // first draws 0, 38, 8 from seeds 0, 1, 2: on days 0 and 2 it stands still
        MovingStair x = Check.told("stair odds 38;part steps 60 moves 10;walker pace 20;walker pace 0;");
        Check.due("one", x.luck(0, 1, 0, 2), 0);
        Check.due("two", x.luck(0, 2, 0, 2), 1);
        Check.due("three", x.luck(0, 3, 0, 2), 1);
        Check.due("from 1", x.luck(1, 1, 0, 2), 1);
        Check.due("from 1, two", x.luck(1, 2, 0, 2), 1);
        Check.due("a minute too late", x.luck(0, 3, 0, 1), 0);
        Check.due("by his own pace", x.luck(0, 3, 0, 3), 3);
        // 7 / 2 minutes
        MovingStair half = Check.told("stair odds 0;part steps 7 moves 1;walker pace 1;");
        Check.due("half a minute to spare", half.luck(0, 5, 0, 4), 5);
        Check.due("half a minute too late", half.luck(0, 5, 0, 3), 0);
        Check.due("carried alone", x.luck(0, 3, 1, 600), 1);
        Check.due("no time", x.luck(0, 20, 0, 0), 0);
        Check.due("twenty", x.luck(0, 20, 0, 600), 20);
        // 4, 42 from 2,000,000,000 on: the seeds go on beyond
        Check.due("the last seed", x.luck(2000000000, 1, 0, 2), 0);
        Check.due("beyond it", x.luck(2000000000, 2, 0, 2), 1);
        // a PART that goes back stands still on days 0 and 2, and may be walked
        MovingStair back = Check.told("stair odds 38;part steps 60 moves 20 back;walker pace 20;");
        Check.due("better still than back", back.luck(0, 3, 0, 600), 2);
        Check.due("it is as it was", back.part(0, 1), -20);
        Check.due("no PARTS", Check.told("stair odds 0;walker pace 0;").luck(0, 20, 0, 0), 20);
        Check.due("600, just", Check.told("stair odds 0;" + "part steps 150 moves 29 back;".repeat(4)
                + "walker pace 30;").luck(0, 7, 0, 600), 7);

        Words.hold(55, "-2: there are none such.");
        int[][] none = {{-1, 1, 0, 1}, {2000000001, 1, 0, 1}, {1, 0, 0, 1}, {1, 21, 0, 1}, {1, -1, 0, 1}, {1, 1, 2, 1},
            {1, 1, -1, 1}, {1, 1, 0, -1}, {1, 1, 0, 601}, {1, Integer.MAX_VALUE, 0, 1}, {1, 1, 0, Integer.MAX_VALUE},
            {Integer.MIN_VALUE, 1, 0, 1}, {1, Integer.MIN_VALUE, 0, 1}, {1, 1, Integer.MIN_VALUE, 1}};
        for (int[] n : none) {
            Check.due("luck(" + n[0] + ", " + n[1] + ", " + n[2] + ", " + n[3] + ")", x.luck(n[0], n[1], n[2], n[3]), -2);
        }
        Check.due("no STAIR", new MovingStair().luck(0, 1, 0, 0), -2);
    }

    // ---- promises 56, 58 and 59 ----

    private static void grow() {
        Words.hold(56, "The pace of a WALKER is n (0 .. 30) from now on: what it was.");
        MovingStair x = Check.told(WAY);
        Check.due("most", x.grow(1, 30), 5);
        Check.due("least", x.grow(1, 0), 30);
        Check.due("as it was", x.grow(1, 0), 0);
        Check.due("from now on", x.walker(1), 0);
        Check.due("the other stays", x.walker(0), 20);
        Check.due("no act", x.count(6), 0);

        Words.hold(56, "-5: there were acts");
        x.reverse();
        Check.due("one", x.grow(1, 7), -5);
        x.set(0, 0);
        Check.due("two", x.grow(0, 7), -5);
        Check.due("it stays", x.walker(1), 0);
        x.undo();
        Check.due("one still", x.grow(1, 7), -5);
        x.undo();
        Check.due("none any more", x.grow(1, 7), 0);
        Check.due("grown", x.walker(1), 7);

        Words.hold(56, "-2: there are none such.");
        for (int walker : new int[] {-1, 2, 8, Integer.MAX_VALUE, Integer.MIN_VALUE}) {
            Check.due("walker " + walker, x.grow(walker, 7), -2);
        }
        for (int n : new int[] {-1, 31, Integer.MAX_VALUE, Integer.MIN_VALUE}) {
            Check.due("n " + n, x.grow(0, n), -2);
        }
        Check.due("it stays", x.walker(0), 20);
        Check.due("no STAIR", new MovingStair().grow(0, 0), -2);
    }

    private static void image() {
        Words.hold(58, "IMAGE k (0 .. 2) keeps the STAIR, and acts: 0.");
        MovingStair x = Check.told(WAY);
        for (int k = 0; k <= 2; k++) {
            Check.due("image(" + k + ")", x.image(k), 0);
            x.set(0, k + 1);
        }
        for (int k = 2; k >= 0; k--) {
            Check.due("back(" + k + ")", x.back(k), 0);
            Check.due("its acts", x.count(6), k);
            speeds(x, k == 0 ? 10 : k, 0, -5);
        }
        x.reverse();
        Check.due("kept anew", x.image(0), 0);
        x.anew();
        x.back(0);
        speeds(x, -10, 0, 5);
        Words.hold(58, "-2: no such k.");
        for (int k : new int[] {-1, 3, Integer.MAX_VALUE, Integer.MIN_VALUE}) {
            Check.due("image(" + k + ")", x.image(k), -2);
        }
    }

    private static void back() {
        Words.hold(59, "It is as IMAGE k has it: 0.");
        MovingStair x = Check.told("stair odds 7;" + PARTS + "walker pace 9;band 6;sides stand 1 walk 2 pace 3 would 4;");
        x.grow(0, 8);
        x.set(0, 1);
        x.set(0, 2);
        x.image(1);
        Check.fill(x, 2, 1, 6, 6);
        Check.tell(x, "stair odds 1;walker pace 1;walker pace 2;");
        Check.feedText(x, "stair");
        Check.due("back", x.back(1), 0);
        int[] counts = {3, 1, 1, 7, 110, 1, 2, 7, 5, 1};
        for (int what = 0; what < counts.length; what++) {
            Check.due("count(" + what + ")", x.count(what), counts[what]);
        }
        Check.due("pace", x.walker(0), 8);
        Check.due("BAND", x.turn(2, 0), 6);
        Check.dueFraction("SIDES", x.stand(0, 0), x.stand(0, 1), 4, 1);
        speeds(x, 2, 0, -5);
        Check.due("its acts", x.undo(), 1);
        speeds(x, 1, 0, -5);
        Check.due("its acts", x.undo(), 0);
        speeds(x, 10, 0, -5);
        Check.due("the IMAGE stays", x.back(1), 0);
        speeds(x, 2, 0, -5);
        // other acts in place of those that it keeps
        x.anew();
        x.reverse();
        x.set(2, 30);
        x.set(1, 29);
        Check.due("back once more", x.back(1), 0);
        Check.due("its own acts", x.undo(), 1);
        speeds(x, 1, 0, -5);
        Check.due("its own acts", x.undo(), 0);
        speeds(x, 10, 0, -5);
        x.back(1);
        MovingStair none = new MovingStair();
        none.image(2);
        Check.tell(none, "stair odds 1;");
        Check.due("to no STAIR", none.back(2), 0);
        Check.due("no STAIR", none.first(), -2);

        Words.hold(59, "-2: no such k");
        for (int k : new int[] {-1, 3, Integer.MAX_VALUE, Integer.MIN_VALUE}) {
            Check.due("back(" + k + ")", x.back(k), -2);
        }
        Words.hold(59, "-6: it has nothing.");
        Check.due("back(0)", x.back(0), -6);
        Check.due("back(2)", x.back(2), -6);
        speeds(x, 2, 0, -5);
    }
}

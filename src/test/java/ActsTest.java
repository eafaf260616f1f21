/** Promises 50 to 56, 58 and 59: acts, days drawn, growing, images. */
public final class ActsTest {
    private static final String WAY = "stair odds 50;part steps 60 moves 10;part steps 30 moves 0;part steps 20 moves 5 back;"
            + "walker pace 20;walker pace 5;";

    public static void main(String[] args) {
        setting();
        turningRound();
        takingBack();
        fourParts();
        sixty();
        days();
        luck();
        growing();
        images();
        noStair();
        Check.finish("ActsTest");
    }

    private static void speeds(String when, MovingStair x, int first, int second, int third) {
        Check.due(when + " part 0", x.part(0, 1), first);
        Check.due(when + " part 1", x.part(1, 1), second);
        Check.due(when + " part 2", x.part(2, 1), third);
    }

    private static void setting() {
        MovingStair x = Check.told(WAY);
        Check.due("set", x.set(0, -30), 10);
        Check.due("set again", x.set(0, 30), -30);
        Check.due("set back", x.set(2, 0), -5);
        Check.due("set alike is an act", x.set(1, 0), 0);
        speeds("set", x, 30, 0, 0);
        Check.due("acts", x.count(6), 4);
        for (int none : new int[] {-1, 3, 4, Integer.MAX_VALUE, Integer.MIN_VALUE}) {
            Check.due("no part", x.set(none, 0), -1000);
        }
        Check.due("too quick", x.set(0, 31), -1000);
        Check.due("too quick back", x.set(0, -31), -1000);
        Check.due("acts stay", x.count(6), 4);
    }

    private static void turningRound() {
        MovingStair x = Check.told(WAY);
        Check.due("one goes back", x.reverse(), 1);
        speeds("turned", x, -10, 0, 5);
        x.set(2, -1);
        Check.due("none goes back", x.reverse(), 0);
        speeds("turned twice", x, 10, 0, 1);
        Check.due("acts", x.count(6), 3);
        MovingStair empty = Check.told("stair odds 0;");
        Check.due("no parts", empty.reverse(), 0);
        Check.due("no parts, an act", empty.count(6), 1);
        Check.due("no parts, undo", empty.undo(), 0);
    }

    private static void takingBack() {
        MovingStair x = Check.told(WAY);
        Check.due("nothing to take back", x.undo(), -5);
        x.set(0, 3);
        x.reverse();
        x.set(0, 7);
        Check.due("undo", x.undo(), 2);
        speeds("undone", x, -3, 0, 5);
        Check.due("undo", x.undo(), 1);
        speeds("undone twice", x, 3, 0, -5);
        Check.due("undo", x.undo(), 0);
        speeds("undone thrice", x, 10, 0, -5);
        Check.due("no more", x.undo(), -5);
        Check.due("none to take back", x.anew(), 0);
        x.set(2, 30);
        x.reverse();
        x.set(1, 30);
        Check.due("anew", x.anew(), 3);
        speeds("anew", x, 10, 0, -5);
        Check.due("acts", x.count(6), 0);
    }

    private static void fourParts() {
        MovingStair x = Check.told("stair odds 0;" + "part steps 1 moves 1;".repeat(3) + "part steps 1 moves 2;");
        Check.due("all go back", x.reverse(), 4);
        Check.due("the last", x.part(3, 1), -2);
        Check.due("set", x.set(3, 9), -2);
        Check.due("undo", x.undo(), 1);
        Check.due("undo", x.undo(), 0);
        Check.due("the last", x.part(3, 1), 2);
    }

    private static void sixty() {
        MovingStair x = Check.told(WAY);
        for (int i = 1; i <= 59; i++) {
            Check.due("act " + i, i % 3 == 0 ? x.reverse() >= 0 ? 0 : 1 : x.set(0, i % 31) < -30 ? 1 : 0, 0);
        }
        Check.due("the sixtieth", x.set(0, 1) < -30 ? 1 : 0, 0);
        Check.due("full", x.set(0, 2), -1005);
        Check.due("full, no such part asked ahead", x.set(3, 2), -1000);
        Check.due("full, no such speed asked ahead", x.set(0, 31), -1000);
        Check.due("full, reverse", x.reverse(), -5);
        Check.due("acts", x.count(6), 60);
        Check.due("speed stays", x.part(0, 1), 1);
        Check.due("undo", x.undo(), 59);
        Check.due("room again", x.reverse() >= 0 ? 1 : 0, 1);
        Check.due("all of them", x.anew(), 60);
        speeds("as it was", x, 10, 0, -5);
    }

    private static int draws(long seed, int odds, int parts) {
        int bits = 0;
        long x = seed;
        for (int i = 0; i < parts; i++) {
            x = (1103515245L * x + 12345) % 2147483648L;
            bits |= x / 65536 % 100 < odds ? 1 << i : 0;
        }
        return bits;
    }

    private static void days() {
        for (int odds : new int[] {0, 1, 50, 99, 100}) {
            MovingStair x = Check.told("stair odds " + odds + ";" + "part steps 1 moves 1;".repeat(4));
            for (int seed : new int[] {0, 1, 7, 8, 12345, 1999999999, 2000000000}) {
                Check.due("drawn " + seed + " by " + odds, x.drawn(seed), draws(seed, odds, 4));
            }
            Check.due("no such seed", x.drawn(-1), -2);
            Check.due("no such seed", x.drawn(2000000001), -2);
        }
        // x is 12345 at first: 0 of 65536, below any odds but 0
        Check.due("seed 0", Check.told("stair odds 1;part steps 1 moves 1;").drawn(0), 1);
        Check.due("odds 0", Check.told("stair odds 0;part steps 1 moves 1;").drawn(0), 0);
        Check.due("no parts", Check.told("stair odds 100;").drawn(5), 0);
    }

    private static void luck() {
        MovingStair x = Check.told("stair odds 50;part steps 60 moves 10;part steps 30 moves 5 back;walker pace 20;walker pace 0;");
        int days = 0;
        for (int seed = 100; seed < 120; seed++) {
            int still = x.drawn(seed);
            // 60 / 30 or 60 / 20, and 30 / 15 or 30 / 20: within 3 and a half, if both or none are as they are by day
            double time = (still & 1) * 1.0 + 2 + ((still & 2) == 0 ? 2 : 1.5);
            days += time <= 4 ? 1 : 0;
        }
        Check.due("luck", x.luck(100, 20, 0, 4), days);
        Check.due("some are lucky", days > 0 && days < 20 ? 1 : 0, 1);
        Check.due("one day", x.luck(100, 1, 0, 600), 1);
        Check.due("no time", x.luck(100, 20, 0, 0), 0);
        Check.due("never", x.luck(100, 20, 1, 600), 0);
        Check.due("the last seed", x.luck(2000000000, 20, 0, 600), 20);
        Check.due("the stair is as it was", x.part(0, 1), 10);
        int[][] none = {{-1, 1, 0, 1}, {2000000001, 1, 0, 1}, {1, 0, 0, 1}, {1, 21, 0, 1}, {1, 1, 2, 1}, {1, 1, -1, 1},
            {1, 1, 0, -1}, {1, 1, 0, 601}};
        for (int[] n : none) {
            Check.due("luck", x.luck(n[0], n[1], n[2], n[3]), -2);
        }
    }

    private static void growing() {
        MovingStair x = Check.told(WAY);
        Check.due("grow", x.grow(1, 30), 5);
        Check.due("grown", x.walker(1), 30);
        Check.due("no act", x.count(6), 0);
        Check.due("to nothing", x.grow(1, 0), 30);
        x.reverse();
        Check.due("behind an act", x.grow(1, 7), -5);
        Check.due("behind an act, none such asked ahead", x.grow(2, 7), -2);
        Check.due("behind an act, none such asked ahead", x.grow(1, 31), -2);
        Check.due("stays", x.walker(1), 0);
        x.undo();
        Check.due("taken back", x.grow(1, 7), 0);
        Check.due("not taken back by anew", x.anew(), 0);
        Check.due("still", x.walker(1), 7);
        Check.due("none such", x.grow(-1, 7), -2);
        Check.due("none such", x.grow(0, -1), -2);
        Check.due("none such", x.grow(0, 31), -2);
    }

    private static void images() {
        MovingStair x = Check.told(WAY);
        Check.due("nothing yet", x.back(0), -6);
        for (int none : new int[] {-1, 3, Integer.MAX_VALUE, Integer.MIN_VALUE}) {
            Check.due("image", x.image(none), -2);
            Check.due("back", x.back(none), -2);
        }
        x.grow(0, 11);
        x.set(0, 1);
        x.reverse();
        Check.due("image", x.image(2), 0);
        x.anew();
        x.grow(0, 12);
        Check.tell(x, "stair odds 3;sides stand 1 walk 1 pace 1 would 1;band 7;");
        Check.due("image", x.image(1), 0);
        Check.feedText(x, "stair");
        Check.due("back", x.back(2), 0);
        Check.due("the tape is no part of it", x.count(8), 5);
        Check.due("acts", x.count(6), 2);
        Check.due("pace", x.walker(0), 11);
        Check.due("odds", x.count(3), 50);
        Check.due("sides", x.count(5), 0);
        speeds("back", x, -1, 0, 5);
        Check.due("undo", x.undo(), 1);
        Check.due("undo", x.undo(), 0);
        speeds("undone", x, 10, 0, -5);
        Check.due("the image stays", x.back(2), 0);
        speeds("back again", x, -1, 0, 5);
        Check.due("another", x.back(1), 0);
        Check.due("sides", x.count(5), 1);
        Check.due("bands", x.count(2), 1);
        Check.due("lines", x.count(7), 3);
        Check.due("image 0 has nothing", x.back(0), -6);
        x.end(0);
        x.stair();
        Check.due("an image of no stair", x.image(0), 0);
        x.back(1);
        Check.due("back to no stair", x.back(0), 0);
        Check.due("no stair", x.reverse(), -2);
        slotsStay();
        actsOfImages();
    }

    /** The acts gone back to are those of the image, not those that came in their place. */
    private static void actsOfImages() {
        MovingStair x = Check.told(WAY);
        x.set(0, 1);
        x.set(0, 2);
        x.image(0);
        x.anew();
        x.reverse();
        x.set(1, 30);
        x.back(0);
        Check.due("undo", x.undo(), 1);
        speeds("undone", x, 1, 0, -5);
        Check.due("undo", x.undo(), 0);
        speeds("undone twice", x, 10, 0, -5);
        x.reverse();
        x.image(1);
        x.undo();
        x.set(2, 7);
        x.back(1);
        Check.due("undo", x.undo(), 0);
        speeds("turned back", x, 10, 0, -5);
    }

    private static void slotsStay() {
        MovingStair x = Check.told(WAY);
        x.image(0);
        Check.fill(x, 0, 1, 20, 1, 40);
        x.back(0);
        Check.due("slots stay", x.count(9), 1);
    }

    private static void noStair() {
        MovingStair x = new MovingStair();
        Check.due("set", x.set(0, 0), -1000);
        Check.due("reverse", x.reverse(), -2);
        Check.due("undo", x.undo(), -2);
        Check.due("anew", x.anew(), -2);
        Check.due("drawn", x.drawn(0), -2);
        Check.due("luck", x.luck(0, 1, 0, 0), -2);
        Check.due("grow", x.grow(0, 0), -2);
    }
}

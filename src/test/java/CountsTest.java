/** Promises 26 to 35: how many steps and how quick, by what some counted. */
public final class CountsTest {
    public static void main(String[] args) {
        twoCounts();
        threeCounts();
        oneStep();
        miscounted();
        onOneObject();
        unknownWays();
        questions();
        exactOnes();
        noCounts();
        refused();
        tooManyForBits();
        Check.finish("CountsTest");
    }

    private static void twoCounts() {
        MovingStair x = new MovingStair();
        Check.fill(x, 0, 1, 20, 1, 40, 10, 1, 30);
        Check.due("fits", x.fits(0), 4);
        Check.due("fit steps", x.fit(0, 0), 58);
        Check.due("fit speed", x.fit(0, 1), 9);
        Check.due("unlike steps", x.unlike(0, 0), 4);
        Check.due("unlike speeds", x.unlike(0, 1), 3);
        Check.due("wrong", x.wrong(0), 0);
        Check.due("wrongs", x.wrongs(0), 0);
        Check.due("ask", x.ask(0), 3);
        Check.due("left", x.left(0), 2);
    }

    private static void threeCounts() {
        MovingStair x = new MovingStair();
        Check.fill(x, 0, 2, 20, 1, 40, 10, 1, 30, 20, -1, 120);
        Check.due("fits", x.fits(0), 1);
        Check.due("fit steps", x.fit(0, 0), 60);
        Check.due("fit speed", x.fit(0, 1), 10);
        Check.due("ways", x.ways(0), 1);
        Check.due("ask", x.ask(0), -1);
        Check.due("left", x.left(0), 1);
        // against it and no quicker than it: there is no count that fits
        Check.fill(x, 1, 0, 1, -1, 100);
        Check.due("slow against it", x.fits(1), 1);
        Check.due("slow against it, steps", x.fit(1, 0), 100);
        Check.due("slow against it, speed", x.fit(1, 1), 0);
    }

    private static void oneStep() {
        MovingStair x = new MovingStair();
        // 1 S by 1 and V, cut, is 0 if S is no more than V
        Check.fill(x, 0, 0, 1, 1, 0);
        Check.due("fits", x.fits(0), 465);
        Check.due("fit steps", x.fit(0, 0), 1);
        Check.due("fit speed", x.fit(0, 1), 1);
        Check.due("unlike steps", x.unlike(0, 0), 30);
        Check.due("unlike speeds", x.unlike(0, 1), 30);
        Check.fill(x, 0, 0, 30, -1, 1);
        Check.due("one step alone", x.fit(0, 0), 1);
        Check.due("one step alone, none wrong", x.wrong(0), 0);
        // pace 30 with it counts none of 1 step if it goes at all, pace 1 against it counts 1 if it stands
        Check.fill(x, 0, 0, 30, 1, 0, 30, -1, 1);
        Check.due("one step, both ways", x.fits(0), 15 - 1);
        Check.due("one step, wrong", x.wrong(0), 0);
        Check.due("one step, ways", x.ways(0), 1);
        Check.fill(x, 0, 0, 30, 1, 1, 30, -1, 1, 29, 1, 1);
        Check.due("one step, standing", x.fits(0), 1);
        Check.due("one step, any way", x.ways(0), 8);
    }

    /** What an earlier call has found must not be left over for a later one. */
    private static void onOneObject() {
        MovingStair x = new MovingStair();
        Check.fill(x, 0, 1, 20, 1, 40, 10, 1, 30);
        Check.fill(x, 1, 1, 20, 1, 40, 10, 1, 99);
        for (int i = 0; i < 2; i++) {
            Check.due("left first", x.left(0), 2);
            Check.due("ask", x.ask(0), 3);
            Check.due("left of none", x.left(1), 0);
            Check.due("ask of none", x.ask(1), -1);
            Check.due("fit speed", x.fit(0, 1), 9);
            Check.due("fit speed of none", x.fit(1, 1), -1);
            Check.due("unlike", x.unlike(0, 0), 4);
            Check.due("unlike of none", x.unlike(1, 0), 0);
            Check.due("ways", x.ways(0), x.ways(0));
        }
    }

    private static void miscounted() {
        MovingStair x = new MovingStair();
        Check.fill(x, 0, 3, 20, 1, 40, 10, 1, 30, 20, -1, 120, 30, 1, 99);
        Check.due("fits", x.fits(0), 0);
        Check.due("fit", x.fit(0, 0), -1);
        Check.due("fit speed", x.fit(0, 1), -1);
        Check.due("unlike", x.unlike(0, 0), 0);
        Check.due("unlike speeds", x.unlike(0, 1), 0);
        Check.due("wrong", x.wrong(0), 1);
        Check.due("wrongs", x.wrongs(0), 8);
        Check.due("ways", x.ways(0), 0);
        Check.due("ask", x.ask(0), -1);
        Check.due("left", x.left(0), 0);
        Check.fill(x, 1, 1, 7, 1, 9999, 7, 1, 9998);
        Check.due("both wrong", x.wrong(1), 2);
        Check.due("both wrong, which", x.wrongs(1), 3);
        Check.fill(x, 1, 1, 7, 1, 10, 7, 1, 20);
        Check.due("either wrong", x.wrong(1), 1);
        Check.due("the least set", x.wrongs(1), 1);
    }

    private static void unknownWays() {
        MovingStair x = new MovingStair();
        // a stair that stands still fits either way
        Check.fill(x, 0, 1, 5, 1, 50, 6, 1, 50, 7, -1, 50);
        Check.due("standing still", x.ways(0), 8);
        Check.due("ways told do not matter", x.fits(0), 1);
        Check.fill(x, 1, 1, 20, -1, 40, 10, -1, 30, 20, 1, 120);
        Check.due("told the wrong way round", x.fits(1), 0);
        Check.due("found all the same", x.ways(1), 1);
    }

    private static void questions() {
        MovingStair x = new MovingStair();
        Check.fill(x, 0, 1, 30, 1, 150);
        int now = x.fits(0);
        int pace = x.ask(0);
        int left = x.left(0);
        Check.due("fewer", left < now ? 1 : 0, 1);
        int worst = 0;
        for (int count = 0; count <= 200; count++) {
            Check.fill(x, 1, 1, 30, 1, 150, pace, 1, count);
            worst = Math.max(worst, x.fits(1));
        }
        Check.due("left at worst", left, worst);
    }

    private static void exactOnes() {
        MovingStair x = new MovingStair();
        Check.fill(x, 0, 1, 20, 1, 40, 10, 1, 30);
        Check.dueFraction("steps", x.exact(0, 0), x.exact(0, 1), 60, 1);
        Check.dueFraction("speed", x.quick(0, 0), x.quick(0, 1), 10, 1);
        Check.fill(x, 0, 1, 20, 1, 40, 20, -1, 120, 3, 1, 5);
        Check.dueFraction("against it, steps", x.exact(0, 0), x.exact(0, 1), 60, 1);
        Check.dueFraction("against it, speed", x.quick(0, 0), x.quick(0, 1), 10, 1);
        Check.fill(x, 0, 1, 20, 1, 40, 10, 1, 20);
        Check.due("no one pair", x.exact(0, 0), -1);
        Check.due("no one pair, speed", x.quick(0, 1), -1);
        Check.fill(x, 0, 1, 3, 1, 7, 2, 1, 5);
        // 3 S = 7 (3 + V), 2 S = 5 (2 + V): V = -12, .. the determinant is 14 - 15 = -1
        Check.dueFraction("whole", x.exact(0, 0), x.exact(0, 1), 35, 1);
        Check.dueFraction("whole, speed", x.quick(0, 0), x.quick(0, 1), 12, 1);
        Check.fill(x, 0, 1, 3, 1, 5, 2, 1, 7);
        // 3 S = 5 (3 + V), 2 S = 7 (2 + V): the determinant is 10 - 21 = -11
        Check.dueFraction("fractions", x.exact(0, 0), x.exact(0, 1), 35, 11);
        Check.dueFraction("speed below 0", x.quick(0, 0), x.quick(0, 1), -12, 11);
        Check.fill(x, 0, 1, 3, 1, 0, 2, 1, 7);
        Check.dueFraction("nothing counted", x.exact(0, 0), x.exact(0, 1), 0, 1);
        Check.dueFraction("nothing counted, speed", x.quick(0, 0), x.quick(0, 1), -2, 1);
        Check.fill(x, 0, 1, 3, 1, 0, 2, 1, 0);
        Check.due("both nothing", x.exact(0, 0), -1);
        for (int what : new int[] {-1, 2}) {
            Check.due("exact what", x.exact(0, what), -2);
            Check.due("quick what", x.quick(0, what), -2);
        }
        Check.fill(x, 0, 1, 3, 1, 7);
        Check.due("one alone", x.exact(0, 0), -2);
        Check.due("one alone, speed", x.quick(0, 0), -2);
    }

    private static void noCounts() {
        MovingStair x = new MovingStair();
        x.row(0, 0, 0);
        Check.due("all fit", x.fits(0), 6200);
        Check.due("first steps", x.fit(0, 0), 1);
        Check.due("first speed", x.fit(0, 1), 0);
        Check.due("unlike steps", x.unlike(0, 0), 200);
        Check.due("unlike speeds", x.unlike(0, 1), 31);
        Check.due("wrong", x.wrong(0), 0);
        Check.due("wrongs", x.wrongs(0), 0);
        Check.due("ways", x.ways(0), 1);
        Check.due("exact", x.exact(0, 0), -2);
    }

    private static void refused() {
        MovingStair x = new MovingStair();
        for (int slot : new int[] {-1, 4, Integer.MAX_VALUE, Integer.MIN_VALUE}) {
            all(x, slot, -2);
        }
        all(x, 2, -6);
        Check.due("what is asked ahead", x.fit(2, 2), -2);
        Check.due("what is asked ahead", x.unlike(2, -1), -2);
        Check.due("what is asked ahead", x.exact(2, 2), -2);
        x.row(2, 2, 7);
        all(x, 2, -2);
        long[][] rows = {{0, 1, 5}, {31, 1, 5}, {-1, 1, 5}, {5, 0, 5}, {5, 2, 5}, {5, -2, 5}, {5, 1, -1}, {5, 1, 10000},
            {5, 1, 1L << 40}, {1L << 40 | 5, 1, 5}, {5, 1L << 32 | 1, 5}};
        for (long[] row : rows) {
            Check.fill(x, 2, 3, 5, 1, 5, 5, 1, 6, row[0], row[1], row[2]);
            all(x, 2, -2);
        }
        Check.fill(x, 2, 3, 1, -1, 0, 30, 1, 9999);
        Check.due("the edges", x.fits(2), 0);
    }

    private static void all(MovingStair x, int slot, int want) {
        Check.due("fits", x.fits(slot), want);
        Check.due("fit", x.fit(slot, 0), want);
        Check.due("unlike", x.unlike(slot, 0), want);
        Check.due("wrong", x.wrong(slot), want);
        Check.due("wrongs", x.wrongs(slot), want);
        Check.due("ways", x.ways(slot), want);
        Check.due("ask", x.ask(slot), want);
        Check.due("left", x.left(slot), want);
        Check.due("exact", x.exact(slot, 0), want);
        Check.due("quick", x.quick(slot, 0), want);
    }

    private static void tooManyForBits() {
        MovingStair x = new MovingStair();
        x.row(0, 1, 60);
        for (int i = 0; i < 20; i++) {
            x.write(0, 3 * i, 10);
            x.write(0, 3 * i + 1, 1);
            x.write(0, 3 * i + 2, i < 12 ? 50 : 51 + i);
        }
        Check.due("wrong", x.wrong(0), 8);
        Check.due("wrongs", x.wrongs(0), -2);
        Check.due("ways", x.ways(0), -2);
        x.row(1, 1, 30);
        x.paste(0, 0, 1, 0, 30);
        Check.due("ten", x.wrongs(1), 0);
        Check.due("ten ways", x.ways(1), 1024);
        x.row(1, 1, 33);
        x.paste(0, 0, 1, 0, 33);
        Check.due("eleven", x.wrongs(1), -2);
        Check.due("eleven ways", x.ways(1), -2);
    }
}

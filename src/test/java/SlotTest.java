/** Promises 60 to 62: rows, writing, pasting. */
public final class SlotTest {
    public static void main(String[] args) {
        rows();
        writing();
        widths();
        pasting();
        overlapping();
        refusedPastes();
        Check.finish("SlotTest");
    }

    private static void rows() {
        MovingStair x = new MovingStair();
        for (int slot = 0; slot < 4; slot++) {
            Check.due("row", x.row(slot, slot, 60), 0);
            Check.due("slots", x.count(9), slot + 1);
        }
        for (int none : new int[] {-1, 4, Integer.MAX_VALUE, Integer.MIN_VALUE}) {
            Check.due("no such slot", x.row(none, 0, 0), -2);
            Check.due("no such width", x.row(0, none, 0), -2);
            Check.due("no such slot ahead", x.row(none, 0, -1), -2);
            Check.due("no such width ahead", x.row(0, none, -1), -2);
        }
        Check.due("too many", x.row(0, 0, 61), -2);
        Check.due("below 0", x.row(0, 0, -1), -3);
        Check.due("far below 0", x.row(0, 0, Integer.MIN_VALUE), -3);
        Check.due("the slot stays", x.write(0, 59, 1), 0);
        Check.fill(x, 1, 1, 20, 1, 40);
        Check.due("written", x.fits(1) > 0 ? 1 : 0, 1);
        Check.due("in place of another", x.row(1, 1, 3), 0);
        Check.due("all 0", x.fits(1), -2);
        Check.due("none", x.row(1, 1, 0), 0);
        Check.due("a row all the same", x.count(9), 4);
        MovingStair y = new MovingStair();
        Check.due("below 0, nothing", y.row(2, 0, -5), -3);
        Check.due("still nothing", y.write(2, 0, 1), -6);
    }

    private static void writing() {
        MovingStair x = new MovingStair();
        Check.due("nothing", x.write(0, 0, 1), -6);
        Check.due("nothing, beyond", x.write(0, -1, 1), -6);
        x.row(0, 0, 2);
        Check.due("write", x.write(0, 1, 1), 0);
        for (int none : new int[] {-1, 2, 60, Integer.MAX_VALUE, Integer.MIN_VALUE}) {
            Check.due("no such number", x.write(0, none, 1), -7);
        }
        Check.due("no such slot", x.write(4, 0, 1), -2);
        Check.due("no such slot", x.write(-1, 0, 1), -2);
        x.row(0, 0, 0);
        Check.due("no number", x.write(0, 0, 1), -7);
    }

    /** A crowd by a FLOW of 1 tells the number that was written: waits of n - 1, n - 2, .. */
    private static long read(int width, long v) {
        MovingStair x = Check.told("stair odds 0;part steps 1 moves 1;sides stand 2 walk 1 pace 1 would 0;");
        Check.fill(x, 0, width, v);
        long waited = x.crowd(0, 0, 0);
        return waited < 0 ? waited : x.clears(0, 0, 0);
    }

    private static void widths() {
        Check.due("a byte", read(0, 127), 127);
        Check.due("a byte, cut below 0", read(0, 128), -2);
        Check.due("a byte, cut", read(0, 256 + 5), 5);
        Check.due("a byte, cut from below", read(0, -251), 5);
        Check.due("two bytes", read(1, 999), 999);
        Check.due("two bytes, cut below 0", read(1, 32768), -2);
        Check.due("two bytes, cut", read(1, 65536 + 7), 7);
        Check.due("four bytes", read(2, 65536 + 7), -2);
        Check.due("four bytes, cut", read(2, (1L << 32) + 7), 7);
        Check.due("four bytes, cut below 0", read(2, (1L << 31) + 7), -2);
        Check.due("eight bytes", read(3, (1L << 32) + 7), -2);
        Check.due("eight bytes", read(3, 7), 7);
        Check.due("below 0", read(3, Long.MIN_VALUE), -2);
    }

    private static void pasting() {
        MovingStair x = new MovingStair();
        Check.fill(x, 0, 1, 20, 1, 40, 10, 1, 30);
        x.row(1, 1, 9);
        Check.due("paste", x.paste(0, 3, 1, 0, 3), 0);
        Check.due("paste", x.paste(0, 0, 1, 3, 3), 0);
        Check.due("paste", x.paste(0, 3, 1, 6, 3), 0);
        Check.due("fits", x.fits(1), 4);
        Check.dueFraction("in their order", x.quick(1, 0), x.exact(1, 0), 10, 60);
        Check.due("the source stays", x.fits(0), 4);
    }

    private static void overlapping() {
        MovingStair x = new MovingStair();
        Check.fill(x, 0, 1, 20, 1, 40, 10, 1, 30, 5, 1, 7);
        Check.due("on", x.paste(0, 0, 0, 3, 6), 0);
        // now 20 1 40 20 1 40 10 1 30, as they were
        Check.due("fits", x.fits(0), 4);
        Check.due("back", x.paste(0, 3, 0, 0, 6), 0);
        // now 20 1 40 10 1 30 10 1 30
        Check.due("exact", x.exact(0, 0), 60);
        Check.due("fits", x.fits(0), 4);
        Check.due("onto itself", x.paste(0, 0, 0, 0, 9), 0);
        Check.due("fits", x.fits(0), 4);
    }

    private static void refusedPastes() {
        MovingStair x = new MovingStair();
        Check.fill(x, 0, 1, 20, 1, 40);
        Check.fill(x, 1, 1, 20, 1, 40, 10, 1, 30);
        x.row(2, 2, 9);
        Check.due("no such slot", x.paste(4, 0, 0, 0, 0), -2);
        Check.due("no such slot", x.paste(0, 0, -1, 0, 0), -2);
        Check.due("no such slot ahead", x.paste(3, 0, 4, 0, 0), -2);
        Check.due("nothing", x.paste(3, 0, 0, 0, 0), -6);
        Check.due("nothing", x.paste(0, 0, 3, 0, 0), -6);
        Check.due("nothing ahead", x.paste(3, -1, 2, 0, 0), -6);
        Check.due("unlike widths", x.paste(0, 0, 2, 0, 0), -8);
        Check.due("unlike widths ahead", x.paste(2, -1, 0, 99, -1), -8);
        int big = Integer.MAX_VALUE;
        int[][] beyond = {{0, 0, 4}, {1, 0, 3}, {0, 4, 3}, {3, 0, 1}, {0, 6, 1}, {-1, 0, 1}, {0, -1, 1}, {0, 0, -1},
            {4, 0, 0}, {0, 7, 0}, {big, 0, big}, {0, big, big}, {big, big, 1}, {0, 0, big}, {0, 0, Integer.MIN_VALUE},
            {Integer.MIN_VALUE, 0, Integer.MIN_VALUE}, {big, big, big}};
        for (int[] b : beyond) {
            Check.due("beyond", x.paste(0, b[0], 1, b[1], b[2]), -7);
        }
        Check.due("none, at the ends", x.paste(0, 3, 1, 6, 0), 0);
        Check.due("nothing happened", x.exact(1, 0), 60);
    }
}

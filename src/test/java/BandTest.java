/** Promises 44 to 49: bands turned by hours, streams, an ant on a band. */
public final class BandTest {
    public static void main(String[] args) {
        turning();
        leastRow();
        longest();
        noBands();
        refused();
        streams();
        ants();
        Check.finish("BandTest");
    }

    private static void turning() {
        MovingStair x = Check.told("stair odds 0;band 100;band 50;");
        Check.fill(x, 0, 1, 150, 0, 0, 150);
        Check.due("free", x.turn(0, 0), 0);
        Check.due("hour 0", x.turned(0, 0, 0), 3);
        Check.due("hour 1", x.turned(0, 0, 1), 0);
        Check.due("turnings", x.turnings(0, 0), 2);
        // turning the first costs 60 and spares 100, turning the second spares 50 alone
        Check.due("dear", x.turn(0, 60), 50 + 60);
        Check.due("dear, hour 0", x.turned(0, 60, 0), 1);
        Check.due("dear, hour 1", x.turned(0, 60, 1), 0);
        Check.due("dear, turnings", x.turnings(0, 60), 1);
        Check.due("too dear", x.turn(0, 9999), 150);
        Check.due("too dear, turnings", x.turnings(0, 9999), 0);
        Check.due("too dear, hour 0", x.turned(0, 9999, 0), 0);
    }

    private static void leastRow() {
        MovingStair x = Check.told("stair odds 0;band 10;band 10;band 10;");
        Check.fill(x, 3, 0, 10, 0, 0, 10, 20, 10);
        Check.due("none left", x.turn(3, 0), 0);
        Check.due("least of several", x.turned(3, 0, 0), 1);
        Check.due("least then", x.turned(3, 0, 1), 0);
        Check.due("least then", x.turned(3, 0, 2), 3);
        Check.due("turnings", x.turnings(3, 0), 3);
        Check.due("never turned", x.turn(3, 1), 0);
        for (int hour = 0; hour <= 2; hour++) {
            Check.due("never turned, hour " + hour, x.turned(3, 1, hour), 3);
        }
        Check.due("no turnings", x.turnings(3, 1), 0);
        Check.due("no such hour", x.turned(3, 1, 3), -1);
        Check.due("no such hour", x.turned(3, 1, -1), -1);
        Check.due("no such hour", x.turned(3, 1, Integer.MAX_VALUE), -1);
    }

    private static void longest() {
        MovingStair x = Check.told("stair odds 0;band 1;band 2;band 4;band 8;");
        x.row(0, 0, 60);
        for (int i = 0; i < 30; i++) {
            x.write(0, 2 * i, i % 16);
            x.write(0, 2 * i + 1, 15 - i % 16);
        }
        Check.due("all carried", x.turn(0, 0), 0);
        int turnings = 0;
        for (int i = 0; i < 30; i++) {
            Check.due("each its own set", x.turned(0, 0, i), i % 16);
            turnings += i == 0 ? 0 : Integer.bitCount(i % 16 ^ (i - 1) % 16);
        }
        Check.due("thirty hours", x.turnings(0, 0), turnings);
        Check.due("no such hour", x.turned(0, 0, 30), -1);
    }

    private static void noBands() {
        MovingStair x = Check.told("stair odds 0;");
        Check.fill(x, 2, 2, 9999, 0, 5, 9999);
        Check.due("all left", x.turn(2, 5), 20003);
        Check.due("no set", x.turned(2, 5, 1), 0);
        Check.due("no turnings", x.turnings(2, 5), 0);
        x.row(2, 2, 0);
        Check.due("no hours", x.turn(2, 5), 0);
        Check.due("no hours, turned", x.turned(2, 5, 0), -1);
        Check.due("no hours, turnings", x.turnings(2, 5), 0);
    }

    private static void refused() {
        MovingStair x = Check.told("stair odds 0;band 10;");
        all(x, 0, 0, -6);
        all(x, 0, -1, -2);
        all(x, 0, 10000, -2);
        all(x, 4, 0, -2);
        all(x, -1, 0, -2);
        Check.fill(x, 0, 3, 1, 2, 3);
        all(x, 0, 0, -2);
        Check.fill(x, 0, 3, 1, 2, 3, -1);
        all(x, 0, 0, -2);
        Check.fill(x, 0, 3, 10000, 2);
        all(x, 0, 0, -2);
        MovingStair none = new MovingStair();
        Check.fill(none, 0, 3, 1, 2);
        all(none, 0, 0, -2);
        all(none, 1, 0, -2);
    }

    private static void all(MovingStair x, int slot, int c, int want) {
        Check.due("turn", x.turn(slot, c), want);
        Check.due("turned", x.turned(slot, c, 0), want);
        Check.due("turned beyond", x.turned(slot, c, 99), want);
        Check.due("turnings", x.turnings(slot, c), want);
    }

    private static void streams() {
        MovingStair x = new MovingStair();
        Check.dueFraction("stream", x.stream(12, 5, 1, 0), x.stream(12, 5, 1, 1), 5, 1);
        Check.dueFraction("still", x.still(12, 5, 1, 0), x.still(12, 5, 1, 1), 24, 5);
        Check.dueFraction("no stream", x.stream(999, 99, 0, 0), x.stream(999, 99, 0, 1), 222, 11);
        Check.dueFraction("no stream, still", x.still(999, 99, 0, 0), x.still(999, 99, 0, 1), 99, 1);
        Check.dueFraction("hard", x.stream(1, 99, 98, 0), x.stream(1, 99, 98, 1), 198, 197);
        for (int what = 0; what <= 1; what++) {
            Check.due("never back", x.stream(1, 5, 5, what), -1);
            Check.due("never back, still", x.still(1, 5, 99, what), -1);
        }
        int[][] none = {{0, 5, 1, 0}, {1000, 5, 1, 0}, {1, 0, 1, 0}, {1, 100, 1, 0}, {1, 5, -1, 0}, {1, 5, 100, 0},
            {1, 5, 1, 2}, {1, 5, 1, -1}, {1, 5, 6, 2}};
        for (int[] n : none) {
            Check.due("stream", x.stream(n[0], n[1], n[2], n[3]), -2);
            Check.due("still", x.still(n[0], n[1], n[2], n[3]), -2);
        }
    }

    private static void ants() {
        MovingStair x = new MovingStair();
        Check.due("at once", x.ant(1, 1, 0), 1);
        Check.due("two", x.ant(2, 1, 0), 2);
        Check.due("longer", x.ant(2, 1, 1), 3);
        Check.due("cut each minute", x.ant(3, 1, 0), 4);
        Check.due("quick", x.ant(99, 99, 99), 1);
        Check.due("never", x.ant(999, 1, 99), -1);
        Check.due("999 of 1001, cut", x.ant(999, 1, 0), 1000);
        Check.due("in the last minute", x.ant(111, 8, 51), 1000);
        Check.due("a minute too late", x.ant(102, 5, 29), -1);
        int[][] none = {{0, 5, 1}, {1000, 5, 1}, {1, 0, 1}, {1, 100, 1}, {1, 5, -1}, {1, 5, 100}};
        for (int[] n : none) {
            Check.due("ant", x.ant(n[0], n[1], n[2]), -2);
        }
    }
}

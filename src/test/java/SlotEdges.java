/** The edges of promises 60 to 62 and of the SLOTS of term I: rows, writing, pasting. */
final class SlotEdges {
    private static final int[] OUT = {-1, 4, Integer.MAX_VALUE, Integer.MIN_VALUE};

    private SlotEdges() {
    }

    static void all() {
        slots();
        row();
        write();
        cut();
        paste();
        refusedPaste();
    }

    private static void slots() {
        Words.hold("I", "SLOTS 0 .. 3 have rows of numbers of 1, 2, 4 or 8 bytes (WIDTH 0 .. 3), at most 60, or nothing.");
        MovingStair x = new MovingStair();
        for (int slot = 0; slot <= 3; slot++) {
            Check.due("nothing", x.write(slot, 0, 1), -6);
            Check.due("row", x.row(slot, slot, 60), 0);
            Check.due("the last number", x.write(slot, 59, 1), 0);
            Check.due("none behind it", x.write(slot, 60, 1), -7);
        }
        Check.due("a byte", read(0, 256 + 5), 5);
        Check.due("two bytes", read(1, 65536 + 5), 5);
        Check.due("four bytes", read(2, (1L << 32) + 5), 5);
        Check.due("eight bytes", read(3, (1L << 62) + 5), -2);
    }

    /** A FLOW of 1 clears n in minute n: so a number of 2 .. 999 that was written is told again. */
    private static long read(int width, long v) {
        MovingStair x = Check.told("stair odds 0;part steps 1 moves 1;sides stand 2 walk 1 pace 1 would 0;");
        Check.fill(x, 0, width, v);
        return x.clears(0, 0, 0);
    }

    private static void row() {
        Words.hold(60, "A SLOT (0 .. 3) has a row of n numbers of a WIDTH, all 0 (in place of another one): 0.");
        MovingStair x = Check.told("stair odds 0;band 1;");
        Check.due("none at all", x.row(0, 0, 0), 0);
        Check.due("a row all the same", x.count(9), 1);
        Check.due("of no number", x.write(0, 0, 1), -7);
        Check.fill(x, 0, 1, 7, 8, 9, 9);
        Check.due("written", x.turn(0, 0), 7 + 8 + 9 + 9 - 2);
        Check.due("in place of another", x.row(0, 3, 60), 0);
        Check.due("all 0", x.turn(0, 0), 0);
        Check.due("shorter", x.row(0, 3, 2), 0);
        Check.due("no third", x.write(0, 2, 1), -7);
        Check.due("the others have none", x.count(9), 1);
        MovingStair y = Check.told("stair odds 0;band 1;");
        Check.fill(y, 0, 1, 7, 8, 9, 9);
        y.row(0, 1, 2);
        y.row(0, 1, 4);
        Check.due("all 0 again", y.turn(0, 0), 0);

        Words.hold(60, "-2: there is no such SLOT or WIDTH (0 .. 3), or n is above 60");
        for (int none : OUT) {
            Check.due("slot " + none, x.row(none, 0, 1), -2);
            Check.due("width " + none, x.row(1, none, 1), -2);
            Check.due("slot " + none + " and n below 0", x.row(none, 0, -1), -2);
            Check.due("width " + none + " and n below 0", x.row(1, none, -1), -2);
        }
        Check.due("61", x.row(1, 0, 61), -2);
        Check.due("the most", x.row(1, 0, Integer.MAX_VALUE), -2);
        Check.due("no row", x.count(9), 1);
        Check.fill(x, 0, 1, 7, 8);
        Check.due("61 in place of another", x.row(0, 0, 61), -2);
        Check.due("it stays", x.turn(0, 0), 14);

        Words.hold(60, "-3, and the SLOT stays: n is below 0.");
        for (int n : new int[] {-1, -60, Integer.MIN_VALUE}) {
            Check.due("row(0, 0, " + n + ")", x.row(0, 0, n), -3);
            Check.due("it stays", x.turn(0, 0), 14);
            Check.due("row(3, 3, " + n + ")", x.row(3, 3, n), -3);
            Check.due("nothing stays", x.write(3, 0, 1), -6);
        }
        Check.due("rows", x.count(9), 1);
    }

    private static void write() {
        Words.hold(61, "Number i of the SLOT's row is v");
        MovingStair x = Check.told("stair odds 0;");
        x.row(3, 2, 60);
        Check.due("first", x.write(3, 0, 9999), 0);
        Check.due("last", x.write(3, 59, 1), 0);
        Check.due("both", x.turn(3, 0), 10000);
        Check.due("in place of another", x.write(3, 0, 5), 0);
        Check.due("both", x.turn(3, 0), 6);

        Words.hold(61, "-2: there is no such SLOT");
        for (int slot : OUT) {
            Check.due("slot " + slot, x.write(slot, 0, 1), -2);
            Check.due("slot " + slot + " beyond", x.write(slot, 60, 1), -2);
        }
        Words.hold(61, "-6: it has nothing");
        Check.due("nothing", x.write(0, 0, 1), -6);
        Check.due("nothing, and no such number", x.write(0, -1, 1), -6);
        Check.due("nothing, and no such number", x.write(0, 60, 1), -6);
        Words.hold(61, "-7: there is no such number.");
        for (int i : new int[] {-1, 60, 61, Integer.MAX_VALUE, Integer.MIN_VALUE}) {
            Check.due("number " + i, x.write(3, i, 9), -7);
        }
        x.row(3, 2, 2);
        Check.due("of two", x.write(3, 2, 9), -7);
        x.row(3, 2, 0);
        Check.due("of none", x.write(3, 0, 9), -7);
    }

    private static void cut() {
        Words.hold(61, "cut to its WIDTH: 0.");
        Check.due("a byte", read(0, 127), 127);
        Check.due("a byte is below 0 from 128 on", read(0, 128), -2);
        Check.due("a byte, 255", read(0, 255), -2);
        Check.due("a byte, 258", read(0, 258), 2);
        Check.due("a byte, from below", read(0, -254), 2);
        Check.due("two bytes", read(1, 999), 999);
        Check.due("two bytes, 1000", read(1, 1000), -2);
        Check.due("two bytes, 32768", read(1, 32768), -2);
        Check.due("two bytes, 65538", read(1, 65538), 2);
        Check.due("four bytes", read(2, 65538), -2);
        Check.due("four bytes, 2^32 and 2", read(2, (1L << 32) + 2), 2);
        Check.due("four bytes, 2^31", read(2, 1L << 31), -2);
        Check.due("eight bytes", read(3, 999), 999);
        Check.due("eight bytes, 2^32 and 2", read(3, (1L << 32) + 2), -2);
        Check.due("eight bytes, least", read(3, Long.MIN_VALUE), -2);
        // -1 is a way of any WIDTH
        for (int width = 0; width <= 3; width++) {
            MovingStair x = new MovingStair();
            Check.fill(x, 0, width, 1, -1, 7);
            Check.due("-1 of WIDTH " + width, x.fits(0), 1);
        }
    }

    /** The numbers of a row, each told by how many fewer are left (without BANDS, all are) if it is 0. */
    private static void holds(String when, MovingStair x, int slot, long... due) {
        for (int i = 0; i < due.length; i++) {
            long all = x.turn(slot, 0);
            x.write(slot, i, 0);
            Check.due(when + ", number " + i, all - x.turn(slot, 0), due[i]);
            x.write(slot, i, due[i]);
        }
    }

    private static void paste() {
        Words.hold(62, "So many numbers of a SLOT's row, from one on, are put to another one's (or its own), from one on, as they were: 0.");
        MovingStair x = Check.told("stair odds 0;");
        Check.fill(x, 0, 1, 1, 2, 3, 4);
        Check.fill(x, 1, 1, 5, 6, 7, 8, 9, 10);
        Check.due("two", x.paste(0, 1, 1, 3, 2), 0);
        holds("put", x, 1, 5, 6, 7, 2, 3, 10);
        holds("the source stays", x, 0, 1, 2, 3, 4);
        Check.due("all", x.paste(0, 0, 1, 2, 4), 0);
        holds("put to the end", x, 1, 5, 6, 1, 2, 3, 4);
        Check.due("none", x.paste(0, 0, 1, 0, 0), 0);
        Check.due("none, at both ends", x.paste(0, 4, 1, 6, 0), 0);
        holds("none put", x, 1, 5, 6, 1, 2, 3, 4);
        Check.due("its own, on", x.paste(1, 0, 1, 1, 5), 0);
        holds("as they were", x, 1, 5, 5, 6, 1, 2, 3);
        Check.due("its own, back", x.paste(1, 2, 1, 0, 4), 0);
        holds("as they were", x, 1, 6, 1, 2, 3, 2, 3);
        Check.due("its own, onto itself", x.paste(1, 0, 1, 0, 6), 0);
        holds("as they were", x, 1, 6, 1, 2, 3, 2, 3);
        for (int width = 0; width <= 3; width++) {
            x.row(2, width, 60);
            x.row(3, width, 60);
            Check.due("sixty of WIDTH " + width, x.paste(2, 0, 3, 0, 60), 0);
        }
    }

    private static void refusedPaste() {
        MovingStair x = Check.told("stair odds 0;");
        Check.fill(x, 0, 1, 1, 2, 3, 4);
        Check.fill(x, 1, 1, 5, 6);
        x.row(2, 2, 9);

        Words.hold(62, "-2: there is no such SLOT");
        for (int slot : OUT) {
            Check.due("from " + slot, x.paste(slot, 0, 0, 0, 0), -2);
            Check.due("to " + slot, x.paste(0, 0, slot, 0, 0), -2);
            Check.due("from nothing to " + slot, x.paste(3, 0, slot, 0, 0), -2);
            Check.due("beyond, to " + slot, x.paste(0, -1, slot, 0, 99), -2);
        }
        Words.hold(62, "-6: one has nothing");
        Check.due("from nothing", x.paste(3, 0, 0, 0, 0), -6);
        Check.due("to nothing", x.paste(0, 0, 3, 0, 0), -6);
        Check.due("both", x.paste(3, 0, 3, 0, 0), -6);
        Check.due("beyond, too", x.paste(0, -1, 3, 0, 99), -6);
        Words.hold(62, "-8: they are not of one WIDTH");
        Check.due("none", x.paste(0, 0, 2, 0, 0), -8);
        Check.due("the other way", x.paste(2, 0, 0, 0, 1), -8);
        Check.due("beyond, too", x.paste(2, -1, 0, 99, -1), -8);
        for (int width = 0; width <= 3; width++) {
            x.row(3, width, 9);
            Check.due("WIDTH 2 and " + width, x.paste(2, 0, 3, 0, 1), width == 2 ? 0 : -8);
        }
        Words.hold(62, "-7, and nothing happens: some are beyond their rows, or a place or n is below 0.");
        int most = Integer.MAX_VALUE;
        int least = Integer.MIN_VALUE;
        int[][] beyond = {{3, 0, 2}, {4, 0, 1}, {0, 1, 2}, {0, 2, 1}, {0, 0, 3}, {0, 0, 5}, {5, 0, 0}, {0, 3, 0}, {-1, 0, 1},
            {0, -1, 1}, {0, 0, -1}, {-1, 0, 0}, {0, -1, 0}, {1, 1, -1}, {most, 0, most}, {0, most, most}, {most, most, most},
            {most, 0, 1}, {0, most, 1}, {0, 0, most}, {least, 0, 1}, {0, least, 1}, {0, 0, least}, {least, least, least},
            {most, most, least}, {4, 2, least}};
        for (int[] b : beyond) {
            Check.due("paste(0, " + b[0] + ", 1, " + b[1] + ", " + b[2] + ")", x.paste(0, b[0], 1, b[1], b[2]), -7);
        }
        holds("nothing happens", x, 1, 5, 6);
        holds("nothing happens", x, 0, 1, 2, 3, 4);
        Check.due("within itself, beyond", x.paste(0, 1, 0, 2, 3), -7);
        holds("nothing happens", x, 0, 1, 2, 3, 4);
    }
}

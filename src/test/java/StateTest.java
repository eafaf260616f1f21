import java.util.Random;

/**
 * Runs of the calls that change an object, each answer and all that it keeps against State. What is
 * kept is asked so often that a run has more than 512 calls; the class does not count them.
 */
public final class StateTest {
    private static final int RUNS = 150;
    private static final int CALLS = 300;
    private static final Random DRAW = new Random(20261119);

    public static void main(String[] args) {
        for (int run = 0; run < RUNS; run++) {
            MovingStair x = new MovingStair();
            State state = new State();
            for (int call = 0; call < CALLS; call++) {
                Check.remark("run " + run + " call " + call + ": ");
                any(x, state);
                kept(x, state);
            }
        }
        Check.finish("StateTest");
    }

    private static int between(int least, int most) {
        return least + DRAW.nextInt(most - least + 1);
    }

    private static boolean seldom(int of) {
        return DRAW.nextInt(of) == 0;
    }

    private static void any(MovingStair x, State state) {
        switch (DRAW.nextInt(10)) {
            case 0, 1 -> tape(x, state);
            case 2, 3, 4 -> acts(x, state);
            case 5 -> images(x, state);
            case 6 -> grow(x, state);
            default -> slots(x, state);
        }
    }

    private static void tape(MovingStair x, State state) {
        byte[] text = State.text(DRAW);
        for (int i = 0; i < text.length; i += 20) {
            int[] five = new int[5];
            for (int j = 0; j < 20; j++) {
                five[j / 4] = five[j / 4] << 8 | (i + j < text.length ? text[i + j] & 255 : between(0, 255));
            }
            Check.due("feed()", x.feed(five[0], five[1], five[2], five[3], five[4]), state.feed(five));
        }
        if (!seldom(9)) {
            int n = seldom(5) ? between(-1, 901) : state.tape.length - (20 - text.length % 20) % 20;
            Check.due("end(" + n + ")", x.end(n), state.end(n));
        }
        if (!seldom(9)) {
            Check.due("stair()", x.stair(), state.stair());
        }
    }

    private static void acts(MovingStair x, State state) {
        int times = seldom(40) ? 62 : 1;
        for (int i = 0; i < times; i++) {
            int part = between(-1, 4);
            int speed = seldom(8) ? between(-40, 40) : between(-30, 30);
            switch (DRAW.nextInt(seldom(5) ? 8 : 5)) {
                case 0, 1, 2 -> Check.due("set(" + part + ", " + speed + ")", x.set(part, speed), state.set(part, speed));
                case 3, 4 -> Check.due("reverse()", x.reverse(), state.reverse());
                case 5, 6 -> Check.due("undo()", x.undo(), state.undo());
                default -> Check.due("anew()", x.anew(), state.anew());
            }
        }
    }

    private static void images(MovingStair x, State state) {
        int k = between(-1, 3);
        if (DRAW.nextBoolean()) {
            Check.due("image(" + k + ")", x.image(k), state.image(k));
        } else {
            Check.due("back(" + k + ")", x.back(k), state.back(k));
        }
    }

    private static void grow(MovingStair x, State state) {
        int walker = between(-1, 8);
        int n = between(-1, 31);
        Check.due("grow(" + walker + ", " + n + ")", x.grow(walker, n), state.grow(walker, n));
    }

    private static void slots(MovingStair x, State state) {
        int slot = seldom(12) ? between(-1, 4) : between(0, 3);
        int to = seldom(12) ? between(-1, 4) : between(0, 3);
        int i = between(-1, 8);
        int k = between(-1, 8);
        switch (DRAW.nextInt(8)) {
            case 0 -> {
                int width = seldom(12) ? between(-1, 4) : between(1, 2);
                int n = seldom(6) ? between(-2, 62) : between(2, 9);
                Check.due("row()", x.row(slot, width, n), state.row(slot, width, n));
            }
            case 1, 2, 3, 4, 5 -> {
                long v = between(0, 99) + ((long) between(-1, 1) << 8 * between(0, 7));
                Check.due("write()", x.write(slot, i, v), state.write(slot, i, v));
            }
            default -> {
                int n = seldom(12) ? Integer.MAX_VALUE : between(-1, 5);
                Check.due("paste()", x.paste(slot, i, to, k, n), state.paste(slot, i, to, k, n));
            }
        }
    }

    /** All that can be seen of what the object keeps. */
    private static void kept(MovingStair x, State state) {
        int[] counts = state.counts();
        for (int what = 0; what < counts.length; what++) {
            Check.due("count(" + what + ")", x.count(what), counts[what]);
        }
        Check.due("fault(0)", x.fault(0), state.fault);
        Check.due("fault(1)", x.fault(1), state.place);
        for (int i = 0; i < 4; i++) {
            Check.due("part(" + i + ", 0)", x.part(i, 0), i < counts[0] ? state.now.parts.get(i)[0] : -1000);
            Check.due("part(" + i + ", 1)", x.part(i, 1), i < counts[0] ? state.now.parts.get(i)[1] : -1000);
            Check.due("turn(" + i + ", 0)", x.turn(i, 0), state.wanted(i, x.turn(i, 0)));
            Check.due("crowd(" + i + ", 0, 0)", x.crowd(i, 0, 0), state.crowd(i));
        }
        for (int i = 0; i < 8; i++) {
            Check.due("walker(" + i + ")", x.walker(i), i < counts[1] ? state.now.walkers.get(i) : -2);
        }
    }
}

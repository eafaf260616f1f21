import java.math.BigInteger;

/** The document's words done slowly and with large numbers, to be compared with the class. */
final class Plain {
    private Plain() {
    }

    /** A fraction in lowest terms. */
    record Ratio(BigInteger above, BigInteger below) {
        static Ratio of(long a, long b) {
            return make(BigInteger.valueOf(a), BigInteger.valueOf(b));
        }

        static Ratio make(BigInteger a, BigInteger b) {
            BigInteger g = a.gcd(b);
            BigInteger s = b.signum() < 0 ? g.negate() : g;
            return new Ratio(a.divide(s), b.divide(s));
        }

        Ratio plus(Ratio o) {
            return make(above.multiply(o.below).add(o.above.multiply(below)), below.multiply(o.below));
        }

        Ratio minus(Ratio o) {
            return plus(new Ratio(o.above.negate(), o.below));
        }

        Ratio times(Ratio o) {
            return make(above.multiply(o.above), below.multiply(o.below));
        }

        Ratio by(Ratio o) {
            return make(above.multiply(o.below), below.multiply(o.above));
        }

        int compare(Ratio o) {
            return above.multiply(o.below).compareTo(o.above.multiply(below));
        }

        long cut() {
            BigInteger[] parts = above.divideAndRemainder(below);
            return (parts[1].signum() < 0 ? parts[0].subtract(BigInteger.ONE) : parts[0]).longValueExact();
        }
    }

    static final Ratio ZERO = Ratio.of(0, 1);

    /** One who goes on a way by a pace, and by another one between two moments. */
    static final class Goer {
        final int[] steps;
        final int[] speeds;
        final int pace;
        int changed;
        Ratio since;
        Ratio until;
        int part = 0;
        Ratio offset = ZERO;
        Ratio clock = ZERO;

        Goer(int[] steps, int[] speeds, int pace) {
            this.steps = steps;
            this.speeds = speeds;
            this.pace = pace;
        }

        /** Goes on until he is at the start of a part, the moment is come, or he never comes on. */
        boolean go(int to, Ratio moment) {
            while (part < to) {
                boolean ahead = since != null && clock.compare(since) < 0;
                boolean within = since != null && !ahead && clock.compare(until) < 0;
                Ratio next = ahead ? since : within ? until : null;
                if (moment != null && (next == null || moment.compare(next) < 0)) {
                    next = moment;
                }
                if (next != null && clock.compare(next) >= 0) {
                    return false;
                }
                int rate = (within ? changed : pace) + speeds[part];
                if (rate <= 0) {
                    offset = ZERO;
                    if (next == null) {
                        return false;
                    }
                    clock = next;
                    continue;
                }
                Ratio end = clock.plus(Ratio.of(steps[part], 1).minus(offset).by(Ratio.of(rate, 1)));
                if (next != null && next.compare(end) < 0) {
                    offset = offset.plus(next.minus(clock).times(Ratio.of(rate, 1)));
                    clock = next;
                } else {
                    clock = end;
                    offset = ZERO;
                    part++;
                }
            }
            return true;
        }
    }

    static Ratio time(int[] steps, int[] speeds, int pace) {
        Goer goer = new Goer(steps, speeds, pace);
        return goer.go(steps.length, null) ? goer.clock : null;
    }

    /** {steps, part} after so many seconds; the part is the number of parts at the end. */
    static long[] place(int[] steps, int[] speeds, int pace, int seconds) {
        Goer goer = new Goer(steps, speeds, pace);
        Ratio moment = Ratio.of(seconds, 60);
        goer.go(steps.length, moment);
        // he is at the next part at the very moment when he is at a part's end
        Ratio come = goer.offset;
        for (int i = 0; i < goer.part; i++) {
            come = come.plus(Ratio.of(steps[i], 1));
        }
        return new long[] {come.cut(), goer.part};
    }

    /** The TIME of one who changes his pace as he comes to a part; null, if he never is there. */
    static Ratio changed(int[] steps, int[] speeds, int pace, int other, int minutes, int start, boolean stops) {
        Goer goer = new Goer(steps, speeds, pace);
        if (!goer.go(start, null)) {
            return null;
        }
        goer.changed = other;
        goer.since = goer.clock;
        goer.until = goer.clock.plus(Ratio.of(minutes, 1));
        if (!goer.go(steps.length, null)) {
            return null;
        }
        return stops && goer.clock.compare(goer.until) < 0 ? goer.until : goer.clock;
    }

    static boolean fits(int steps, int speed, long pace, long way, long counted) {
        long rate = pace + way * speed;
        return rate > 0 && pace * steps / rate == counted;
    }

    static Ratio standing(int speed, int stand) {
        return Ratio.of(2L * speed, stand);
    }

    /** The most that can go: neither side may have more than it can carry. */
    static Ratio walking(int speed, int[] sides, int would) {
        Ratio standers = Ratio.of(speed, sides[0]);
        Ratio walkers = Ratio.of(speed + sides[2], sides[1]);
        if (would == 0) {
            return standers;
        }
        if (would == 100) {
            return walkers;
        }
        Ratio byStanders = standers.by(Ratio.of(100 - would, 100));
        Ratio byWalkers = walkers.by(Ratio.of(would, 100));
        return byStanders.compare(byWalkers) < 0 ? byStanders : byWalkers;
    }
}

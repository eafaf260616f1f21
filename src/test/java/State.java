import java.math.BigInteger;
import java.nio.charset.StandardCharsets;
import java.util.ArrayList;
import java.util.Arrays;
import java.util.List;
import java.util.Random;
import java.util.regex.Matcher;
import java.util.regex.Pattern;

/** What an object keeps, held as lists, and each act as a picture of all SPEEDS ahead of it. */
final class State {
    byte[] tape = {};
    int fault = 0;
    int place = -1;
    Way now = new Way();
    final Way[] images = new Way[3];
    final long[][] rows = new long[4][];
    final int[] widths = new int[4];

    static final class Way {
        int lines = 0;
        int odds = 0;
        int[] sides;
        final List<int[]> parts = new ArrayList<>();
        final List<Integer> walkers = new ArrayList<>();
        final List<Integer> bands = new ArrayList<>();
        final List<int[]> acts = new ArrayList<>();

        Way copy() {
            Way other = new Way();
            other.lines = lines;
            other.odds = odds;
            other.sides = sides;
            parts.forEach(part -> other.parts.add(part.clone()));
            other.walkers.addAll(walkers);
            other.bands.addAll(bands);
            other.acts.addAll(acts);
            return other;
        }

        int[] speeds() {
            return parts.stream().mapToInt(part -> part[1]).toArray();
        }

        void putSpeeds(int[] speeds) {
            for (int i = 0; i < speeds.length; i++) {
                parts.get(i)[1] = speeds[i];
            }
        }
    }

    /** Lines that are mostly right, sometimes with a byte changed or the end cut off. */
    static byte[] text(Random draw) {
        StringBuilder text = new StringBuilder(draw.nextInt(12) == 0 ? "" : "stair odds " + draw.nextInt(101) + ";");
        for (int lines = draw.nextInt(10); lines > 0; lines--) {
            switch (draw.nextInt(6)) {
                case 0, 1 -> text.append("part steps ").append(1 + draw.nextInt(200)).append(" moves ")
                        .append(draw.nextInt(31)).append(draw.nextInt(4) == 0 ? " back;" : " ;\n");
                case 2, 3 -> text.append("walker\npace ").append(draw.nextInt(31)).append(';');
                case 4 -> text.append("sides stand ").append(1 + draw.nextInt(9)).append(" walk 1 pace 5 would 50;");
                default -> text.append("band ").append(1 + draw.nextInt(9999)).append("; ");
            }
        }
        if (text.length() > 0 && draw.nextInt(4) == 0) {
            text.setCharAt(draw.nextInt(text.length()), " ;a0\t\u00ff".charAt(draw.nextInt(6)));
        }
        if (text.length() > 0 && draw.nextInt(12) == 0) {
            text.setLength(draw.nextInt(text.length()));
        }
        byte[] bytes = new byte[text.length()];
        for (int i = 0; i < bytes.length; i++) {
            bytes[i] = (byte) text.charAt(i);
        }
        return bytes;
    }

    int feed(int[] five) {
        if (tape.length > 880) {
            return -1;
        }
        int from = tape.length;
        tape = Arrays.copyOf(tape, from + 20);
        for (int i = 0; i < 20; i++) {
            tape[from + i] = (byte) (five[i / 4] >>> 24 - 8 * (i % 4));
        }
        return tape.length;
    }

    int end(int n) {
        if (n < 0 || n > tape.length) {
            return -1;
        }
        tape = Arrays.copyOf(tape, n);
        return n;
    }

    int stair() {
        Text text = new Text(tape);
        Way way = text.read();
        tape = new byte[0];
        fault = text.fault;
        place = text.place;
        if (fault != 0) {
            return -4;
        }
        now = way;
        return way.lines;
    }

    int set(int part, int speed) {
        if (part < 0 || part >= now.parts.size() || Math.abs(speed) > 30) {
            return -1000;
        }
        if (now.acts.size() == 60) {
            return -1005;
        }
        now.acts.add(now.speeds());
        int before = now.parts.get(part)[1];
        now.parts.get(part)[1] = speed;
        return before;
    }

    int reverse() {
        if (now.lines == 0 || now.acts.size() == 60) {
            return now.lines == 0 ? -2 : -5;
        }
        now.acts.add(now.speeds());
        now.putSpeeds(Arrays.stream(now.speeds()).map(speed -> -speed).toArray());
        return (int) Arrays.stream(now.speeds()).filter(speed -> speed < 0).count();
    }

    int undo() {
        if (now.lines == 0 || now.acts.isEmpty()) {
            return now.lines == 0 ? -2 : -5;
        }
        now.putSpeeds(now.acts.remove(now.acts.size() - 1));
        return now.acts.size();
    }

    int anew() {
        int before = now.acts.size();
        if (before > 0) {
            now.putSpeeds(now.acts.get(0));
            now.acts.clear();
        }
        return now.lines == 0 ? -2 : before;
    }

    int grow(int walker, int n) {
        if (walker < 0 || walker >= now.walkers.size() || n < 0 || n > 30) {
            return -2;
        }
        return now.acts.isEmpty() ? now.walkers.set(walker, n) : -5;
    }

    int image(int k) {
        if (k < 0 || k > 2) {
            return -2;
        }
        images[k] = now.copy();
        return 0;
    }

    int back(int k) {
        if (k < 0 || k > 2 || images[k] == null) {
            return k < 0 || k > 2 ? -2 : -6;
        }
        now = images[k].copy();
        return 0;
    }

    static boolean noSlot(int slot) {
        return slot < 0 || slot > 3;
    }

    int row(int slot, int width, int n) {
        if (noSlot(slot) || width < 0 || width > 3 || n > 60) {
            return -2;
        }
        if (n < 0) {
            return -3;
        }
        rows[slot] = new long[n];
        widths[slot] = width;
        return 0;
    }

    int write(int slot, int i, long v) {
        if (noSlot(slot) || rows[slot] == null) {
            return noSlot(slot) ? -2 : -6;
        }
        if (i < 0 || i >= rows[slot].length) {
            return -7;
        }
        int spare = 64 - (8 << widths[slot]);
        rows[slot][i] = v << spare >> spare;
        return 0;
    }

    int paste(int slot, int i, int to, int k, int n) {
        if (noSlot(slot) || noSlot(to)) {
            return -2;
        }
        if (rows[slot] == null || rows[to] == null) {
            return -6;
        }
        if (widths[slot] != widths[to]) {
            return -8;
        }
        if (i < 0 || k < 0 || n < 0 || (long) i + n > rows[slot].length || (long) k + n > rows[to].length) {
            return -7;
        }
        long[] were = rows[slot].clone();
        for (int j = 0; j < n; j++) {
            rows[to][k + j] = were[i + j];
        }
        return 0;
    }

    int[] counts() {
        int steps = now.parts.stream().mapToInt(part -> part[0]).sum();
        int held = (int) Arrays.stream(rows).filter(row -> row != null).count();
        return new int[] {now.parts.size(), now.walkers.size(), now.bands.size(), now.odds, steps,
            now.sides == null ? 0 : 1, now.acts.size(), now.lines, tape.length, held};
    }

    /** Without BANDS all who want up or down are left; with BANDS the answer is not looked at here. */
    int wanted(int slot, int answered) {
        if (now.lines == 0 || rows[slot] == null) {
            return now.lines == 0 ? -2 : -6;
        }
        if (rows[slot].length % 2 != 0 || Arrays.stream(rows[slot]).anyMatch(v -> v < 0 || v > 9999)) {
            return -2;
        }
        return now.bands.isEmpty() ? (int) Arrays.stream(rows[slot]).sum() : answered;
    }

    long crowd(int slot) {
        if (now.parts.isEmpty() || now.sides == null || now.parts.get(0)[1] <= 0) {
            return -2;
        }
        if (rows[slot] == null) {
            return -6;
        }
        if (Arrays.stream(rows[slot]).anyMatch(v -> v < 0 || v > 999)) {
            return -2;
        }
        long flow = 2 * now.parts.get(0)[1] / now.sides[0];
        long waiting = 0;
        long waited = 0;
        for (int minute = 0; minute < rows[slot].length || waiting > 0; minute++) {
            boolean come = minute < rows[slot].length;
            if (!come && flow == 0) {
                return -1;
            }
            waiting += come ? rows[slot][minute] : 0;
            waiting -= Math.min(waiting, flow);
            waited += waiting;
        }
        return waited;
    }

    /** Cuts a text into TOKENS first, and looks at their order after that. */
    private static final class Text {
        int fault = 0;
        int place = -1;
        private final List<String> tokens = new ArrayList<>();
        private final List<Integer> places = new ArrayList<>();
        private int next = 0;

        Text(byte[] bytes) {
            String signs = new String(bytes, StandardCharsets.ISO_8859_1);
            Matcher found = Pattern.compile("[a-z]+|[0-9]+|[^ \\n]", Pattern.DOTALL)
                    .matcher(signs);
            while (found.find()) {
                tokens.add(found.group());
                places.add(found.start());
            }
            tokens.add("");
            places.add(bytes.length);
        }

        Way read() {
            Way way = new Way();
            while (fault == 0 && !tokens.get(next).isEmpty()) {
                line(way);
                word(";");
                way.lines++;
            }
            return way;
        }

        private void line(Way way) {
            String head = tokens.get(next);
            boolean tooMany = head.equals("part") && way.parts.size() == 4 || head.equals("walker") && way.walkers.size() == 8
                    || head.equals("band") && way.bands.size() == 4;
            if (way.lines == 0) {
                word("stair");
                way.odds = number("odds", 0, 100);
            } else if (!List.of("part", "walker", "sides", "band").contains(head)) {
                refuse(1);
            } else if (tooMany) {
                refuse(3);
            } else {
                next++;
                switch (head) {
                    case "part" -> {
                        way.parts.add(new int[] {number("steps", 1, 200), number("moves", 0, 30)});
                        if (fault == 0 && tokens.get(next).equals("back")) {
                            next++;
                            way.parts.get(way.parts.size() - 1)[1] *= -1;
                        }
                    }
                    case "walker" -> way.walkers.add(number("pace", 0, 30));
                    case "band" -> way.bands.add(number("", 1, 9999));
                    default -> way.sides = new int[] {number("stand", 1, 9), number("walk", 1, 9), number("pace", 1, 30),
                        number("would", 0, 100)};
                }
            }
        }

        private void refuse(int what) {
            if (fault == 0) {
                fault = what;
                place = places.get(next);
            }
        }

        private void word(String wanted) {
            if (!tokens.get(next).equals(wanted)) {
                refuse(1);
            } else if (fault == 0) {
                next++;
            }
        }

        private int number(String name, int least, int most) {
            if (!name.isEmpty()) {
                word(name);
            }
            String token = tokens.get(next);
            if (fault != 0) {
                return 0;
            }
            if (!token.matches("[0-9]+")) {
                refuse(1);
                return 0;
            }
            BigInteger value = new BigInteger(token);
            if (value.bitLength() > 20 || value.intValue() < least || value.intValue() > most) {
                refuse(2);
                return 0;
            }
            next++;
            return value.intValue();
        }
    }
}

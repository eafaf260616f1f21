import java.nio.charset.StandardCharsets;

/** What the tests share: telling a text to an object, and calls whose answer is due. */
final class Check {
    private static int wrong = 0;
    private static int asked = 0;
    private static String remark = "";

    private Check() {
    }

    /** What is put ahead of each call that is told to be wrong. */
    static void remark(String text) {
        remark = text;
    }

    static int asked() {
        return asked;
    }

    static void due(String call, long got, long want) {
        asked++;
        if (got != want) {
            wrong++;
            System.out.println(remark + call + " answered " + got + ", due is " + want);
        }
    }

    /** A fraction, asked above and below. */
    static void dueFraction(String call, long above, long below, long wantAbove, long wantBelow) {
        due(call + " above", above, wantAbove);
        due(call + " below", below, wantBelow);
    }

    static void feedText(MovingStair x, String text) {
        feedBytes(x, text.getBytes(StandardCharsets.ISO_8859_1));
    }

    static void feedBytes(MovingStair x, byte[] bytes) {
        int start = x.count(8);
        for (int i = 0; i < bytes.length; i += 20) {
            x.feed(four(bytes, i), four(bytes, i + 4), four(bytes, i + 8), four(bytes, i + 12), four(bytes, i + 16));
        }
        x.end(start + bytes.length);
    }

    private static int four(byte[] bytes, int from) {
        int number = 0;
        for (int i = from; i < from + 4; i++) {
            number = number << 8 | (i < bytes.length ? bytes[i] & 255 : 0);
        }
        return number;
    }

    static int tell(MovingStair x, String text) {
        x.end(0);
        feedText(x, text);
        return x.stair();
    }

    static MovingStair told(String text) {
        MovingStair x = new MovingStair();
        due("stair() of " + text, Math.min(1, tell(x, text)), text.isEmpty() ? 0 : 1);
        return x;
    }

    static void fill(MovingStair x, int slot, int width, long... numbers) {
        due("row", x.row(slot, width, numbers.length), 0);
        for (int i = 0; i < numbers.length; i++) {
            due("write", x.write(slot, i, numbers[i]), 0);
        }
    }

    static void finish(String name) {
        System.out.println(name + ": " + asked + " answers, " + wrong + " wrong");
        if (wrong != 0 || asked == 0) {
            System.exit(1);
        }
    }
}

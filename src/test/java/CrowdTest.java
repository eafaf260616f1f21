/** Promises 36 to 43: standing or walking, crowds, sides that change. */
public final class CrowdTest {
    private static final String PARTS = "stair odds 0;part steps 60 moves 10;part steps 30 moves 0;part steps 20 moves 5 back;";

    public static void main(String[] args) {
        flows();
        shares();
        enough();
        crowds();
        changes();
        mostWaiting();
        refused();
        Check.finish("CrowdTest");
    }

    private static void flows() {
        MovingStair x = Check.told(PARTS + "sides stand 2 walk 3 pace 20 would 40;");
        Check.dueFraction("stand", x.stand(0, 0), x.stand(0, 1), 10, 1);
        Check.dueFraction("walk", x.walk(0, 0), x.walk(0, 1), 25, 3);
        Check.due("more", x.more(0), -1);
        Check.due("enough", x.enough(0), 50);
        for (int part = 1; part <= 2; part++) {
            Check.due("stand still", x.stand(part, 0), -1);
            Check.due("walk still", x.walk(part, 1), -1);
            Check.due("more still", x.more(part), -2);
            Check.due("enough still", x.enough(part), -2);
        }
        x.set(2, 7);
        Check.dueFraction("by the SPEED now", x.stand(2, 0), x.stand(2, 1), 7, 1);
    }

    private static void share(int would, long above, long below, int more) {
        MovingStair x = Check.told(PARTS + "sides stand 2 walk 3 pace 20 would " + would + ";");
        Check.dueFraction("walk by " + would, x.walk(0, 0), x.walk(0, 1), above, below);
        Check.due("more by " + would, x.more(0), more);
    }

    private static void shares() {
        // standing 5, walking 10 a minute: both full at 200 / 3 in a hundred
        share(0, 5, 1, -1);
        share(1, 500, 99, -1);
        share(50, 10, 1, 0);
        share(60, 25, 2, 1);
        share(66, 250, 17, 1);
        share(67, 1000, 67, 1);
        share(99, 1000, 99, 1);
        share(100, 10, 1, 0);
    }

    private static void enough() {
        // walking side: 11 / 9 a minute; standing one: 10 a minute
        MovingStair never = Check.told(PARTS + "sides stand 1 walk 9 pace 1 would 0;");
        Check.due("by none", never.enough(0), -1);
        // standing 10 / 9, walking 11 a minute
        MovingStair half = Check.told(PARTS + "sides stand 9 walk 1 pace 1 would 0;");
        Check.due("by half", half.enough(0), 50);
        Check.due("more", half.more(0), -1);
    }

    private static void crowds() {
        MovingStair x = Check.told(PARTS + "sides stand 2 walk 3 pace 20 would 40;");
        Check.fill(x, 1, 1, 12, 10, 0);
        Check.due("crowd standing", x.crowd(1, 0, 0), 4);
        Check.due("clears standing", x.clears(1, 0, 0), 3);
        // 8 a minute, cut: 4, then 6, then nobody
        Check.due("crowd walking", x.crowd(1, 0, 1), 10);
        Check.due("clears walking", x.clears(1, 0, 1), 3);
        Check.fill(x, 1, 1, 10, 10, 3);
        Check.due("nobody waits", x.crowd(1, 0, 0), 0);
        Check.due("nobody ever does", x.clears(1, 0, 0), 0);
        Check.fill(x, 1, 1, 0, 35);
        Check.due("behind the row", x.crowd(1, 0, 0), 25 + 15 + 5);
        Check.due("clears behind the row", x.clears(1, 0, 0), 5);
        Check.fill(x, 1, 1, 11, 0, 11, 0, 0);
        Check.due("twice", x.crowd(1, 0, 0), 2);
        Check.due("clears the second time", x.clears(1, 0, 0), 4);
        x.row(1, 3, 0);
        Check.due("nobody comes", x.crowd(1, 0, 1), 0);
        Check.due("nobody comes, clears", x.clears(1, 0, 1), 0);
        endless();
    }

    private static void endless() {
        MovingStair x = Check.told("stair odds 0;part steps 1 moves 1;sides stand 3 walk 1 pace 1 would 50;");
        Check.fill(x, 0, 1, 0, 0);
        Check.due("none come", x.crowd(0, 0, 0), 0);
        Check.due("none come, clears", x.clears(0, 0, 0), 0);
        Check.fill(x, 0, 1, 0, 1);
        Check.due("for ever", x.crowd(0, 0, 0), -1);
        Check.due("for ever, clears", x.clears(0, 0, 0), -1);
        MovingStair y = Check.told("stair odds 0;part steps 1 moves 1;sides stand 1 walk 1 pace 1 would 0;");
        y.row(0, 1, 60);
        for (int i = 0; i < 60; i++) {
            y.write(0, i, 999);
        }
        // one a minute, 59,940 come: 998 m behind minute m of 60, then 59,879 .. 1
        Check.due("very long", y.crowd(0, 0, 1), 998L * 1830 + 59879L * 59880 / 2);
        Check.due("very long, clears", y.clears(0, 0, 1), 59940);
    }

    private static void changes() {
        MovingStair x = Check.told(PARTS + "sides stand 2 walk 3 pace 20 would 0;");
        // standing 10; walking by 0: 5, by 60: 12
        Check.fill(x, 2, 1, 12, 60, 10, 0, 12, 60, 10, 0);
        Check.due("no change", x.sides(2, 0, 0), 2 + 2 + 4 + 4);
        Check.due("no change begins", x.begins(2, 0, 0), 0);
        Check.due("one change", x.sides(2, 0, 1), 0 + 0 + 2 + 2);
        Check.due("one change begins", x.begins(2, 0, 1), 1);
        Check.due("two changes", x.sides(2, 0, 2), 0 + 0 + 2 + 2);
        Check.due("two changes begin", x.begins(2, 0, 2), 1);
        Check.due("three changes", x.sides(2, 0, 3), 0);
        Check.due("three changes begin", x.begins(2, 0, 3), 1);
        Check.fill(x, 2, 1, 12, 0, 10, 60);
        Check.due("in these minutes", x.sides(2, 0, 0), 4);
        Check.due("in these minutes, changed", x.sides(2, 0, 1), 2);
        Check.due("standing at first", x.begins(2, 0, 1), 0);
        Check.fill(x, 2, 1, 3, 0, 3, 0);
        Check.due("alike", x.sides(2, 0, 3), 0);
        Check.due("alike, standing rather", x.begins(2, 0, 3), 0);
        x.row(2, 1, 0);
        Check.due("no minutes", x.sides(2, 0, 3), 0);
        Check.due("no minutes, begins", x.begins(2, 0, 3), 0);
        longest(x);
    }

    private static void longest(MovingStair x) {
        x.row(3, 3, 60);
        for (int i = 0; i < 30; i++) {
            x.write(3, 2 * i, i == 29 ? 999 : 12);
            x.write(3, 2 * i + 1, i == 29 ? 0 : 60);
        }
        // walking 12 for 29 minutes, then standing 10 in the last one
        Check.due("thirty minutes", x.sides(3, 0, 1), 989);
        Check.due("thirty minutes, begins", x.begins(3, 0, 1), 1);
        Check.due("thirty minutes, no change", x.sides(3, 0, 0), 994);
    }

    /** Nobody goes by either law (2 / 9 and 10 / 81 a minute, cut), and as many come as can be told. */
    private static void mostWaiting() {
        MovingStair x = Check.told("stair odds 0;part steps 1 moves 1;sides stand 9 walk 9 pace 1 would 0;");
        long[] row = new long[60];
        for (int i = 0; i < row.length; i += 2) {
            row[i] = 999;
            row[i + 1] = 10;
        }
        Check.fill(x, 0, 1, row);
        for (int n = 0; n <= 3; n++) {
            Check.due("most waiting, " + n + " changes", x.sides(0, 0, n), 999 * (30 * 31 / 2));
            Check.due("alike, " + n + " changes", x.begins(0, 0, n), 0);
        }
    }

    private static void refused() {
        MovingStair x = Check.told(PARTS + "sides stand 2 walk 3 pace 20 would 40;");
        Check.fill(x, 1, 1, 12, 10);
        for (int none : new int[] {-1, 3, 4, Integer.MAX_VALUE, Integer.MIN_VALUE}) {
            Check.due("stand", x.stand(none, 0), -2);
            Check.due("walk", x.walk(none, 0), -2);
            Check.due("more", x.more(none), -2);
            Check.due("enough", x.enough(none), -2);
            all(x, 1, none, -2);
        }
        Check.due("stand what", x.stand(0, 2), -2);
        Check.due("walk what", x.walk(1, -1), -2);
        all(x, 1, 1, -2);
        all(x, 1, 2, -2);
        all(x, 3, 1, -2);
        all(x, 3, 0, -6);
        all(x, 4, 0, -2);
        all(x, -1, 0, -2);
        for (int law : new int[] {-1, 2}) {
            Check.due("law", x.crowd(1, 0, law), -2);
            Check.due("law clears", x.clears(1, 0, law), -2);
            Check.due("law ahead of nothing", x.crowd(3, 0, law), -2);
        }
        for (int n : new int[] {-1, 4}) {
            Check.due("n", x.sides(1, 0, n), -2);
            Check.due("n begins", x.begins(1, 0, n), -2);
        }
        Check.fill(x, 1, 1, 12, 1000);
        all(x, 1, 0, -2);
        Check.fill(x, 1, 1, 12, -1);
        all(x, 1, 0, -2);
        long[][] rows = {{12, 101}, {12, -1}, {1000, 12}, {-1, 12}, {0, 0, 1000, 0}, {0, 0, 0, 101}, {0, 100, 999, 100, 0, 101},
            {0, 100, 999, 100, 1000, 100}};
        for (long[] row : rows) {
            Check.fill(x, 1, 1, row);
            Check.due("sides", x.sides(1, 0, 0), -2);
            Check.due("begins", x.begins(1, 0, 0), -2);
        }
        Check.fill(x, 1, 1, 999, 0, 0, 100);
        Check.due("the edges", x.sides(1, 0, 0), 989 + 979);
        Check.fill(x, 1, 1, 12, 100, 3);
        Check.due("not two each", x.sides(1, 0, 0), -2);
        Check.due("not two each, begins", x.begins(1, 0, 0), -2);
        Check.due("one each", x.crowd(1, 0, 0) > 0 ? 1 : 0, 1);
        MovingStair unsided = Check.told(PARTS);
        Check.fill(unsided, 1, 1, 12, 10);
        Check.due("stand without sides", unsided.stand(0, 0), -2);
        Check.due("walk without sides", unsided.walk(0, 0), -2);
        Check.due("more without sides", unsided.more(0), -2);
        Check.due("enough without sides", unsided.enough(0), -2);
        all(unsided, 1, 0, -2);
        all(unsided, 2, 0, -2);
    }

    private static void all(MovingStair x, int slot, int part, int want) {
        Check.due("crowd", x.crowd(slot, part, 0), want);
        Check.due("clears", x.clears(slot, part, 1), want);
        Check.due("sides", x.sides(slot, part, 1), want);
        Check.due("begins", x.begins(slot, part, 1), want);
    }
}

/** Promises 8 to 25: times, places, lace, spurt, train, there and back. */
public final class TravelTest {
    private static final String WAY = "stair odds 10;part steps 60 moves 10;part steps 30 moves 0;part steps 20 moves 5 back;"
            + "walker pace 20;walker pace 5;walker pace 0;walker pace 20;";
    private static final int[] OUT = {-1, 4, 8, Integer.MAX_VALUE, Integer.MIN_VALUE};

    public static void main(String[] args) {
        times();
        places();
        firstAndNever();
        catching();
        laces();
        spurts();
        trains();
        rests();
        backs();
        withoutParts();
        wrongArguments();
        Check.finish("TravelTest");
    }

    private static void times() {
        MovingStair x = Check.told(WAY);
        Check.dueFraction("time 0", x.time(0, 0), x.time(0, 1), 29, 6);
        Check.dueFraction("time 1", x.time(1, 0), x.time(1, 1), -1, -1);
        Check.dueFraction("spends 0 2", x.spends(0, 2, 0), x.spends(0, 2, 1), 4, 3);
        Check.dueFraction("spends 1 2", x.spends(1, 2, 0), x.spends(1, 2, 1), -1, -1);
        Check.dueFraction("spends 1 1", x.spends(1, 1, 0), x.spends(1, 1, 1), 6, 1);
        Check.dueFraction("spends 2 0", x.spends(2, 0, 0), x.spends(2, 0, 1), 6, 1);
        Check.dueFraction("steps 0", x.steps(0, 0), x.steps(0, 1), 290, 3);
        Check.dueFraction("steps 2", x.steps(2, 0), x.steps(2, 1), -1, -1);
        MovingStair y = Check.told("stair odds 0;part steps 7 moves 3;walker pace 0;");
        Check.dueFraction("carried", y.steps(0, 0), y.steps(0, 1), 0, 1);
        Check.dueFraction("carried, time", y.time(0, 0), y.time(0, 1), 7, 3);
    }

    private static void places() {
        MovingStair x = Check.told(WAY);
        int[] seconds = {0, 1, 60, 119, 120, 150, 209, 210, 289, 290, 36000};
        int[] steps = {0, 0, 30, 59, 60, 70, 89, 90, 109, 110, 110};
        int[] parts = {0, 0, 0, 0, 1, 1, 1, 2, 2, -1, -1};
        for (int i = 0; i < seconds.length; i++) {
            Check.due("at " + seconds[i], x.at(0, seconds[i]), steps[i]);
            Check.due("on " + seconds[i], x.on(0, seconds[i]), parts[i]);
        }
        Check.due("stuck ahead of part 2", x.at(1, 36000), 90);
        Check.due("stuck on part 2", x.on(1, 36000), 2);
        Check.due("stuck ahead of part 1", x.at(2, 36000), 60);
        Check.due("stuck on part 1", x.on(2, 36000), 1);
    }

    private static void firstAndNever() {
        MovingStair x = Check.told(WAY);
        Check.due("first of two alike", x.first(), 0);
        Check.due("never", x.never(), 6);
        Check.due("none ever", Check.told("stair odds 0;part steps 1 moves 1 back;walker pace 1;").first(), -1);
        Check.due("no walkers", Check.told("stair odds 0;").first(), -1);
        Check.due("no stair", new MovingStair().first(), -2);
        Check.due("no stair, never", new MovingStair().never(), -2);
        Check.due("no stair, round", new MovingStair().round(), -2);
        Check.due("no walkers never", Check.told("stair odds 0;").never(), 0);
        Check.due("a later one", Check.told("stair odds 0;part steps 9 moves 1;walker pace 1;walker pace 2;walker pace 2;").first(), 1);
    }

    private static void catching() {
        MovingStair x = Check.told("stair odds 0;part steps 60 moves 0;walker pace 12;walker pace 6;walker pace 0;walker pace 7;");
        Check.due("just", x.catches(0, 1, 300), 1);
        Check.due("not", x.catches(0, 1, 301), 0);
        Check.due("at once", x.catches(1, 0, 0), 0);
        Check.due("the other never", x.catches(0, 2, 3600), 1);
        Check.due("he never", x.catches(2, 0, 0), 0);
        Check.due("both never", x.catches(2, 2, 0), 0);
        Check.due("60/7 min and 85 s, cut down", x.catches(3, 1, 85), 1);
        Check.due("60/7 min and 86 s", x.catches(3, 1, 86), 0);
        for (int none : OUT) {
            Check.due("walker " + none, x.catches(none, 0, 0), -2);
            Check.due("other " + none, x.catches(0, none, 0), -2);
        }
        Check.due("seconds below", x.catches(0, 1, -1), -2);
        Check.due("seconds above", x.catches(0, 1, 3601), -2);
    }

    private static void laces() {
        MovingStair x = Check.told(WAY);
        Check.dueFraction("lace 1", x.lace(0, 1, 0), x.lace(0, 1, 1), 11, 2);
        Check.due("ties 1", x.ties(0, 1), 0);
        Check.dueFraction("saves 1", x.saves(0, 1, 0), x.saves(0, 1, 1), 1, 3);
        Check.dueFraction("lace 0", x.lace(0, 0, 0), x.lace(0, 0, 1), 29, 6);
        Check.due("ties 0", x.ties(0, 0), 0);
        Check.dueFraction("saves 0", x.saves(0, 0, 0), x.saves(0, 0, 1), 0, 1);
        Check.dueFraction("carried to part 1", x.lace(0, 7, 0), x.lace(0, 7, 1), 59, 6);
        Check.due("never", x.lace(1, 1, 0), -1);
        Check.due("never ties", x.ties(1, 1), -1);
        Check.due("never saves", x.saves(1, 1, 0), -1);
        MovingStair last = Check.told("stair odds 0;part steps 10 moves 0;part steps 10 moves 10;walker pace 10;");
        Check.dueFraction("over the end", last.lace(0, 3, 0), last.lace(0, 3, 1), 4, 1);
        Check.due("on the moving one", last.ties(0, 3), 1);
        Check.dueFraction("saves half a minute", last.saves(0, 3, 0), last.saves(0, 3, 1), 1, 2);
        MovingStair back = Check.told("stair odds 0;part steps 10 moves 5 back;part steps 10 moves 5 back;walker pace 15;");
        Check.dueFraction("stays where it goes back", back.lace(0, 2, 0), back.lace(0, 2, 1), 4, 1);
        Check.due("the first of several", back.ties(0, 2), 0);
    }

    private static void spurts() {
        MovingStair x = Check.told(WAY);
        Check.dueFraction("spurt", x.spurt(0, 10, 1, 0), x.spurt(0, 10, 1, 1), 43, 10);
        Check.due("runs", x.runs(0, 10, 1), 2);
        Check.due("left inside", x.spurt(1, 1, 1, 0), -1);
        Check.due("left inside, runs", x.runs(1, 1, 1), -1);
        Check.dueFraction("just through", x.spurt(1, 10, 2, 0), x.spurt(1, 10, 2, 1), 12, 1);
        Check.due("just through, runs", x.runs(1, 10, 2), 2);
        Check.dueFraction("for no time", x.spurt(0, 10, 0, 0), x.spurt(0, 10, 0, 1), 29, 6);
        Check.due("for no time, runs", x.runs(0, 30, 0), 0);
        Check.dueFraction("not faster", x.spurt(0, 0, 60, 0), x.spurt(0, 0, 60, 1), 29, 6);
        MovingStair shut = Check.told("stair odds 0;part steps 10 moves 5 back;part steps 100 moves 0;walker pace 5;");
        Check.dueFraction("comes to part 0 alone", shut.spurt(0, 5, 2, 0), shut.spurt(0, 5, 2, 1), 22, 1);
        Check.due("comes to part 0 alone, runs", shut.runs(0, 5, 2), 0);
        Check.due("too short", shut.spurt(0, 5, 1, 0), -1);
        MovingStair carried = Check.told("stair odds 0;part steps 10 moves 10;walker pace 0;");
        Check.dueFraction("running by 0 is no stop", carried.spurt(0, 0, 60, 0), carried.spurt(0, 0, 60, 1), 1, 1);
        Check.dueFraction("a stop lasts", carried.lace(0, 60, 0), carried.lace(0, 60, 1), 60, 1);
    }

    private static void trains() {
        MovingStair x = Check.told(WAY);
        Check.due("as he is", x.train(0, 5), 0);
        Check.due("faster by 5", x.train(0, 4), 5);
        Check.due("by any", x.train(1, 600), 1);
        Check.due("within 28", x.train(1, 28), 2);
        Check.due("by none", x.train(0, 0), -1);
        Check.due("misses", x.miss(0, 4), 50);
        Check.due("does not", x.miss(0, 5), 0);
        Check.due("never", x.miss(1, 5), -1);
        MovingStair y = Check.told("stair odds 0;part steps 9 moves 0;walker pace 7;walker pace 9;");
        Check.due("cut up", y.miss(0, 1), 18);
        Check.due("just", y.miss(1, 1), 0);
        Check.due("just, train", y.train(1, 1), 0);
        Check.due("a whole minute", y.miss(1, 0), 60);
    }

    private static void rests() {
        MovingStair x = Check.told(WAY);
        Check.due("rests", x.rests(0, 6), 1);
        Check.due("not of 0", x.rests(0, 4), -1);
        Check.due("of 0", x.rests(0, 5), 0);
        Check.due("at most", x.rests(0, 600), 60);
        Check.due("never", x.rests(1, 600), -1);
        MovingStair y = Check.told("stair odds 0;part steps 10 moves 0;part steps 10 moves 10;walker pace 10;");
        Check.due("over the end", y.rests(0, 4), 3);
    }

    private static void backs() {
        MovingStair x = Check.told(WAY);
        Check.dueFraction("back", x.back(0, 0), x.back(0, 1), 83, 10);
        Check.due("never back", x.back(2, 0), -1);
        Check.due("round", x.round(), 0);
        Check.due("none does both", Check.told("stair odds 0;part steps 1 moves 9;walker pace 9;walker pace 1;").round(), -1);
        Check.due("a later one", Check.told("stair odds 0;part steps 1 moves 9;walker pace 10;walker pace 11;").round(), 1);
        Check.due("back alone", Check.told("stair odds 0;part steps 6 moves 4 back;walker pace 2;").back(0, 0), 1);
        MovingStair near = Check.told("stair odds 0;part steps 199 moves 1;part steps 193 moves 7;part steps 197 moves 11;"
                + "part steps 191 moves 13;walker pace 29;walker pace 30;");
        Check.due("long fractions", near.round(), 1);
    }

    private static void withoutParts() {
        MovingStair x = Check.told("stair odds 0;walker pace 0;");
        Check.dueFraction("time", x.time(0, 0), x.time(0, 1), 0, 1);
        Check.dueFraction("steps", x.steps(0, 0), x.steps(0, 1), 0, 1);
        Check.dueFraction("back", x.back(0, 0), x.back(0, 1), 0, 1);
        Check.due("at", x.at(0, 100), 0);
        Check.due("on", x.on(0, 100), -1);
        Check.due("first", x.first(), 0);
        Check.due("never", x.never(), 0);
        Check.due("round", x.round(), 0);
        Check.due("train", x.train(0, 0), 0);
        Check.due("miss", x.miss(0, 0), 0);
        Check.due("lace", x.lace(0, 0, 0), -2);
        Check.due("ties", x.ties(0, 0), -2);
        Check.due("saves", x.saves(0, 0, 0), -2);
        Check.due("spurt", x.spurt(0, 0, 0, 0), -2);
        Check.due("runs", x.runs(0, 0, 0), -2);
        Check.due("rests", x.rests(0, 5), -2);
        Check.due("spends", x.spends(0, 0, 0), -2);
        Check.due("catches", x.catches(0, 0, 0), 1);
        Check.due("catches later", x.catches(0, 0, 1), 0);
    }

    private static void wrongArguments() {
        MovingStair x = Check.told(WAY);
        for (int none : OUT) {
            Check.due("time", x.time(none, 0), -2);
            Check.due("spends", x.spends(none, 0, 0), -2);
            Check.due("spends part", x.spends(0, none, 0), -2);
            Check.due("steps", x.steps(none, 1), -2);
            Check.due("at", x.at(none, 0), -2);
            Check.due("on", x.on(none, 0), -2);
            Check.due("lace", x.lace(none, 1, 0), -2);
            Check.due("ties", x.ties(none, 1), -2);
            Check.due("saves", x.saves(none, 1, 0), -2);
            Check.due("spurt", x.spurt(none, 1, 1, 0), -2);
            Check.due("runs", x.runs(none, 1, 1), -2);
            Check.due("train", x.train(none, 1), -2);
            Check.due("miss", x.miss(none, 1), -2);
            Check.due("rests", x.rests(none, 1), -2);
            Check.due("back", x.back(none, 0), -2);
        }
        for (int what : new int[] {-1, 2}) {
            Check.due("time", x.time(0, what), -2);
            Check.due("time never", x.time(1, what), -2);
            Check.due("spends", x.spends(0, 0, what), -2);
            Check.due("steps", x.steps(0, what), -2);
            Check.due("lace", x.lace(0, 1, what), -2);
            Check.due("saves", x.saves(0, 1, what), -2);
            Check.due("spurt", x.spurt(0, 1, 1, what), -2);
            Check.due("back", x.back(0, what), -2);
        }
        wrongMinutes(x);
    }

    private static void wrongMinutes(MovingStair x) {
        for (int n : new int[] {-1, 61}) {
            Check.due("lace", x.lace(0, n, 0), -2);
            Check.due("ties", x.ties(0, n), -2);
            Check.due("saves", x.saves(0, n, 0), -2);
            Check.due("spurt", x.spurt(0, 1, n, 0), -2);
            Check.due("runs", x.runs(0, 1, n), -2);
        }
        for (int e : new int[] {-1, 31}) {
            Check.due("spurt e", x.spurt(0, e, 1, 0), -2);
            Check.due("runs e", x.runs(0, e, 1), -2);
        }
        for (int n : new int[] {-1, 601}) {
            Check.due("train", x.train(0, n), -2);
            Check.due("miss", x.miss(0, n), -2);
            Check.due("rests", x.rests(0, n), -2);
        }
        for (int seconds : new int[] {-1, 36001}) {
            Check.due("at", x.at(0, seconds), -2);
            Check.due("on", x.on(0, seconds), -2);
        }
    }
}

/** The edges of promises 8 to 25 and of terms II and III: times, places, lace, spurt, train, there and back. */
final class TravelEdges {
    private static final String HEAD = "stair odds 0;";
    /** Walker 0 takes 29 / 6, walker 1 stays ahead of PART 2, walker 2 ahead of PART 1. */
    private static final String WAY = HEAD + "part steps 60 moves 10;part steps 30 moves 0;part steps 20 moves 5 back;"
            + "walker pace 20;walker pace 5;walker pace 0;walker pace 20;";
    private static final int[] OUT = {-1, 4, 8, Integer.MAX_VALUE, Integer.MIN_VALUE};
    private static final int[] NO_WHAT = {-1, 2, Integer.MAX_VALUE, Integer.MIN_VALUE};

    private TravelEdges() {
    }

    static void all() {
        comingOn();
        time();
        spends();
        steps();
        at();
        on();
        first();
        never();
        catches();
        stopping();
        running();
        lace();
        ties();
        saves();
        spurt();
        runs();
        train();
        miss();
        rests();
        back();
        round();
    }

    private static void dueTime(MovingStair x, int walker, long above, long below) {
        Check.dueFraction("time(" + walker + ")", x.time(walker, 0), x.time(walker, 1), above, below);
    }

    // ---- term II ----

    private static void comingOn() {
        Words.hold("II", "SPEED of a PART: moves, below 0, if it goes back.");
        MovingStair x = Check.told(HEAD + "part steps 9 moves 7;part steps 9 moves 7 back;part steps 9 moves 0 back;");
        Check.due("forward", x.part(0, 1), 7);
        Check.due("back", x.part(1, 1), -7);
        Check.due("still", x.part(2, 1), 0);

        Words.hold("II", "There, without PARTS, he is at once.");
        x = Check.told(HEAD + "walker pace 0;");
        dueTime(x, 0, 0, 1);
        Check.due("first()", x.first(), 0);
        Check.due("never()", x.never(), 0);
        Check.due("train", x.train(0, 0), 0);
        Check.due("miss", x.miss(0, 0), 0);
        Check.due("round()", x.round(), 0);

        Words.hold("II", "On a PART a WALKER comes on by his pace and its SPEED (steps a minute, together)");
        x = Check.told(HEAD + "part steps 200 moves 30;walker pace 30;walker pace 0;walker pace 1;");
        dueTime(x, 0, 10, 3);
        dueTime(x, 1, 20, 3);
        dueTime(x, 2, 200, 31);

        Words.hold("II", "if that is not above 0, he stays at its start for ever.");
        x = Check.told(HEAD + "part steps 10 moves 10;part steps 9 moves 5 back;walker pace 6;walker pace 5;walker pace 4;");
        Check.dueFraction("just above", x.time(0, 0), x.time(0, 1), 77, 8);
        for (int walker = 1; walker <= 2; walker++) {
            Check.due("never there", x.time(walker, 0), -1);
            Check.due("at its start", x.at(walker, 36000), 10);
            Check.due("on it", x.on(walker, 36000), 1);
        }
        x = Check.told(HEAD + "part steps 1 moves 0;walker pace 0;");
        Check.due("never there", x.time(0, 0), -1);
        Check.due("at its start", x.at(0, 36000), 0);
        Check.due("on it", x.on(0, 36000), 0);

        Words.hold("II", "TIME: steps by that, PART by PART.");
        x = Check.told(HEAD + "part steps 1 moves 0;part steps 1 moves 1;part steps 1 moves 1 back;part steps 1 moves 3;walker pace 2;");
        Check.dueFraction("1/2, 1/3, 1/1, 1/5", x.time(0, 0), x.time(0, 1), 61, 30);

        Words.hold("II", "STEPS of his own: pace times TIME on each.");
        Check.dueFraction("twice as many", x.steps(0, 0), x.steps(0, 1), 61, 15);
    }

    // ---- promises 8 to 15 ----

    private static void time() {
        Words.hold(8, "TIME (II) of a WALKER from the start to the end, in minutes, above (what 0), below (1).");
        MovingStair x = Check.told(WAY);
        dueTime(x, 0, 29, 6);
        dueTime(x, 3, 29, 6);
        x = Check.told(HEAD + "part steps 200 moves 29 back;".repeat(4) + "walker pace 30;");
        dueTime(x, 0, 800, 1);
        Words.hold(8, "NONE: he never comes there");
        x = Check.told(WAY);
        dueTime(x, 1, -1, -1);
        dueTime(x, 2, -1, -1);
        Words.hold(8, "-2: there are none such.");
        for (int none : OUT) {
            Check.due("time(" + none + ", 0)", x.time(none, 0), -2);
        }
        for (int what : NO_WHAT) {
            Check.due("time(0, " + what + ")", x.time(0, what), -2);
            Check.due("of one who never comes there", x.time(1, what), -2);
        }
        Check.due("no STAIR", new MovingStair().time(0, 0), -2);
        Check.due("no WALKERS", Check.told(HEAD + "part steps 1 moves 1;").time(0, 0), -2);
    }

    private static void spends() {
        Words.hold(9, "TIME on a PART alone, begun at its start, likewise.");
        MovingStair x = Check.told(WAY);
        Check.dueFraction("the first", x.spends(0, 0, 0), x.spends(0, 0, 1), 2, 1);
        Check.dueFraction("the last", x.spends(0, 2, 0), x.spends(0, 2, 1), 4, 3);
        MovingStair far = Check.told(HEAD + "part steps 1 moves 0;part steps 20 moves 15;walker pace 0;");
        Check.dueFraction("one that he never comes to", far.spends(0, 1, 0), far.spends(0, 1, 1), 4, 3);
        MovingStair slow = Check.told(HEAD + "part steps 7 moves 29 back;walker pace 30;");
        Check.dueFraction("just above 0 together", slow.spends(0, 0, 0), slow.spends(0, 0, 1), 7, 1);
        Words.hold(9, "NONE: he never comes to its end");
        Check.dueFraction("together 0", x.spends(1, 2, 0), x.spends(1, 2, 1), -1, -1);
        Check.dueFraction("together below 0", x.spends(2, 2, 0), x.spends(2, 2, 1), -1, -1);
        Check.dueFraction("both still", x.spends(2, 1, 0), x.spends(2, 1, 1), -1, -1);
        Words.hold(9, "-2 likewise.");
        for (int none : OUT) {
            Check.due("walker " + none, x.spends(none, 0, 0), -2);
            Check.due("part " + none, x.spends(0, none, 0), -2);
        }
        Check.due("part 3", x.spends(0, 3, 0), -2);
        for (int what : NO_WHAT) {
            Check.due("what " + what, x.spends(0, 0, what), -2);
            Check.due("what " + what + " of never", x.spends(1, 2, what), -2);
        }
        Check.due("no PARTS", Check.told(HEAD + "walker pace 1;").spends(0, 0, 0), -2);
        Check.due("no STAIR", new MovingStair().spends(0, 0, 0), -2);
    }

    private static void steps() {
        Words.hold(10, "STEPS he takes himself on the way, above, below.");
        MovingStair x = Check.told(WAY);
        Check.dueFraction("steps", x.steps(0, 0), x.steps(0, 1), 290, 3);
        MovingStair carried = Check.told(HEAD + "part steps 7 moves 3;walker pace 0;");
        Check.dueFraction("none", carried.steps(0, 0), carried.steps(0, 1), 0, 1);
        MovingStair there = Check.told(HEAD + "walker pace 30;");
        Check.dueFraction("no PARTS", there.steps(0, 0), there.steps(0, 1), 0, 1);
        Words.hold(10, "NONE, -2 as time().");
        Check.dueFraction("never", x.steps(1, 0), x.steps(1, 1), -1, -1);
        Check.dueFraction("never, by pace 0", x.steps(2, 0), x.steps(2, 1), -1, -1);
        for (int none : OUT) {
            Check.due("walker " + none, x.steps(none, 0), -2);
        }
        for (int what : NO_WHAT) {
            Check.due("what " + what, x.steps(0, what), -2);
            Check.due("what " + what + " of never", x.steps(1, what), -2);
        }
        Check.due("no STAIR", new MovingStair().steps(0, 0), -2);
    }

    private static void at() {
        Words.hold(11, "How far he has come after so many seconds (0 .. 36,000), in steps, cut.");
        MovingStair x = Check.told(WAY);
        int[] seconds = {0, 1, 2, 119, 120, 121, 123, 209, 210, 213, 214, 286, 287, 289, 290, 291, 36000};
        int[] steps = {0, 0, 1, 59, 60, 60, 61, 89, 90, 90, 91, 109, 109, 109, 110, 110, 110};
        for (int i = 0; i < seconds.length; i++) {
            Check.due("at(0, " + seconds[i] + ")", x.at(0, seconds[i]), steps[i]);
        }
        Check.due("stays", x.at(1, 36000), 90);
        MovingStair slow = Check.told(HEAD + "part steps 200 moves 29 back;".repeat(4) + "walker pace 30;");
        Check.due("not yet", slow.at(0, 59), 0);
        Check.due("600 minutes", slow.at(0, 36000), 600);
        Check.due("a second less", slow.at(0, 35999), 599);
        Check.due("no PARTS", Check.told(HEAD + "walker pace 3;").at(0, 36000), 0);
        Words.hold(11, "-2: there are none such.");
        for (int none : OUT) {
            Check.due("walker " + none, x.at(none, 0), -2);
        }
        for (int none : new int[] {-1, 36001, Integer.MAX_VALUE, Integer.MIN_VALUE}) {
            Check.due("seconds " + none, x.at(0, none), -2);
        }
        Check.due("no STAIR", new MovingStair().at(0, 0), -2);
    }

    private static void on() {
        Words.hold(12, "The PART on which he is then (at its end the next one).");
        MovingStair x = Check.told(WAY);
        int[] seconds = {0, 119, 120, 209, 210, 289};
        int[] parts = {0, 0, 1, 1, 2, 2};
        for (int i = 0; i < seconds.length; i++) {
            Check.due("on(0, " + seconds[i] + ")", x.on(0, seconds[i]), parts[i]);
        }
        Check.due("stays on the next one", x.on(1, 600), 2);
        Check.due("not yet", x.on(1, 599), 1);
        MovingStair slow = Check.told(HEAD + "part steps 200 moves 29 back;".repeat(4) + "walker pace 30;");
        for (int part = 1; part <= 3; part++) {
            Check.due("a second ahead of PART " + part, slow.on(0, 12000 * part - 1), part - 1);
            Check.due("just at PART " + part, slow.on(0, 12000 * part), part);
        }
        Words.hold(12, "NONE: he is there, there are no PARTS");
        Check.due("just there", x.on(0, 290), -1);
        Check.due("long there", x.on(0, 36000), -1);
        Check.due("no PARTS", Check.told(HEAD + "walker pace 0;").on(0, 0), -1);
        Words.hold(12, "-2 likewise.");
        for (int none : OUT) {
            Check.due("walker " + none, x.on(none, 0), -2);
        }
        for (int none : new int[] {-1, 36001, Integer.MAX_VALUE, Integer.MIN_VALUE}) {
            Check.due("seconds " + none, x.on(0, none), -2);
        }
        Check.due("no STAIR", new MovingStair().on(0, 0), -2);
    }

    private static void first() {
        Words.hold(13, "The WALKER who is there first, the first of several.");
        Check.due("two alike", Check.told(WAY).first(), 0);
        Check.due("a later one", Check.told(HEAD + "part steps 9 moves 1;walker pace 0;walker pace 2;walker pace 2;").first(), 1);
        Check.due("the last of eight", Check.told(HEAD + "part steps 9 moves 1 back;" + "walker pace 1;".repeat(7)
                + "walker pace 2;").first(), 7);
        Check.due("at once, all", Check.told(HEAD + "walker pace 0;walker pace 9;").first(), 0);
        Words.hold(13, "NONE: nobody ever is");
        Check.due("never", Check.told(HEAD + "part steps 1 moves 1 back;walker pace 1;walker pace 0;").first(), -1);
        Check.due("no WALKERS", Check.told(HEAD).first(), -1);
        Words.hold(13, "-2: there is no STAIR.");
        Check.due("no STAIR", new MovingStair().first(), -2);
    }

    private static void never() {
        Words.hold(14, "WALKERS who never are, as bits.");
        Check.due("two", Check.told(WAY).never(), 6);
        Check.due("all eight", Check.told(HEAD + "part steps 1 moves 30 back;" + "walker pace 30;".repeat(8)).never(), 255);
        Check.due("the last alone", Check.told(HEAD + "part steps 1 moves 0;" + "walker pace 1;".repeat(7)
                + "walker pace 0;").never(), 128);
        Check.due("none", Check.told(HEAD + "part steps 1 moves 1;walker pace 0;").never(), 0);
        Check.due("no WALKERS", Check.told(HEAD).never(), 0);
        Words.hold(14, "-2 likewise.");
        Check.due("no STAIR", new MovingStair().never(), -2);
    }

    private static void catches() {
        Words.hold(15, "CATCH: whether a WALKER who starts so many seconds (0 .. 3,600) behind another one is there no later: 1, 0");
        MovingStair x = Check.told(HEAD + "part steps 61 moves 0;walker pace 30;walker pace 1;walker pace 0;walker pace 7;");
        // 61 / 30 minutes are 122 seconds, 61 are 3,660, 61 / 7 are a little under 523
        Check.due("just", x.catches(0, 1, 3538), 1);
        Check.due("a second too late", x.catches(0, 1, 3539), 0);
        Check.due("the most", x.catches(0, 1, 3600), 0);
        Check.due("a fraction before", x.catches(3, 1, 3137), 1);
        Check.due("a fraction after", x.catches(3, 1, 3138), 0);
        Check.due("at once", x.catches(1, 0, 0), 0);
        Check.due("himself", x.catches(1, 1, 0), 1);
        Check.due("himself later", x.catches(1, 1, 1), 0);
        // 60 / 30 and 30 / 25 are 192 seconds, 60 / 15 and 30 / 10 are 420
        MovingStair moving = Check.told(HEAD + "part steps 60 moves 10;part steps 30 moves 5;walker pace 20;walker pace 5;");
        Check.due("carried, just", moving.catches(0, 1, 228), 1);
        Check.due("carried, a second too late", moving.catches(0, 1, 229), 0);
        Words.hold(15, "(he never is, too; 1, if the other one alone never is)");
        Check.due("he never is", x.catches(2, 1, 0), 0);
        Check.due("both never are", x.catches(2, 2, 0), 0);
        Check.due("the other one alone", x.catches(1, 2, 0), 1);
        Check.due("the other one alone, however late", x.catches(1, 2, 3600), 1);
        Words.hold(15, "-2: there are none such.");
        for (int none : OUT) {
            Check.due("walker " + none, x.catches(none, 0, 0), -2);
            Check.due("other " + none, x.catches(0, none, 0), -2);
            Check.due("other " + none + " of one who never is", x.catches(2, none, 0), -2);
        }
        for (int none : new int[] {-1, 3601, Integer.MAX_VALUE, Integer.MIN_VALUE}) {
            Check.due("seconds " + none, x.catches(0, 1, none), -2);
            Check.due("seconds " + none + " of one who never is", x.catches(2, 1, none), -2);
        }
        Check.due("no STAIR", new MovingStair().catches(0, 0, 0), -2);
    }

    // ---- term III ----

    private static void dueLace(MovingStair x, int n, long above, long below, int part) {
        Check.dueFraction("lace(0, " + n + ")", x.lace(0, n, 0), x.lace(0, n, 1), above, below);
        Check.due("ties(0, " + n + ")", x.ties(0, n), part);
    }

    private static void dueSpurt(MovingStair x, int e, int n, long above, long below, int part) {
        Check.dueFraction("spurt(0, " + e + ", " + n + ")", x.spurt(0, e, n, 0), x.spurt(0, e, n, 1), above, below);
        Check.due("runs(0, " + e + ", " + n + ")", x.runs(0, e, n), part);
    }

    private static void stopping() {
        Words.hold("III", "Stopping he is as one of pace 0 for so long");
        dueLace(Check.told(HEAD + "part steps 30 moves 10;walker pace 5;"), 1, 7, 3, 0);
        dueLace(Check.told(HEAD + "part steps 30 moves 0;walker pace 5;"), 1, 7, 1, 0);
        Words.hold("III", "(if the PART goes back, he stays at its start)");
        dueLace(Check.told(HEAD + "part steps 30 moves 5 back;walker pace 10;"), 7, 13, 1, 0);
        // carried to the end of PART 0 in a minute, then two more ahead of one that goes back
        dueLace(Check.told(HEAD + "part steps 10 moves 10;part steps 10 moves 5 back;walker pace 10;"), 3, 5, 1, 0);
        Words.hold("III", "goes on, when carried to its end, on the next PART");
        MovingStair x = Check.told(HEAD + "part steps 10 moves 10;part steps 20 moves 5;walker pace 10;");
        dueLace(x, 2, 3, 1, 0);
        dueLace(x, 1, 7, 3, 0);
        Words.hold("III", "and at the way's end is there only when the minutes are over");
        x = Check.told(HEAD + "part steps 10 moves 10;walker pace 10;");
        dueLace(x, 1, 1, 1, 0);
        dueLace(x, 2, 2, 1, 0);
        dueLace(x, 60, 60, 1, 0);
        x = Check.told(HEAD + "part steps 10 moves 10;".repeat(4) + "walker pace 30;");
        dueLace(x, 5, 5, 1, 0);
        dueLace(x, 4, 4, 1, 0);
        dueLace(x, 3, 13, 4, 0);
    }

    private static void running() {
        Words.hold("III", "running as one of a greater pace.");
        dueSpurt(Check.told(HEAD + "part steps 30 moves 0;walker pace 10;"), 20, 1, 1, 1, 0);
        // there ahead of the end of the minutes
        dueSpurt(Check.told(HEAD + "part steps 30 moves 0;walker pace 10;"), 20, 60, 1, 1, 0);
        dueSpurt(Check.told(HEAD + "part steps 10 moves 10;walker pace 0;"), 0, 60, 1, 1, 0);
        // it goes on on the next PART
        dueSpurt(Check.told(HEAD + "part steps 10 moves 0;part steps 10 moves 10;walker pace 10;"), 10, 1, 5, 6, 0);

        Words.hold("III", "Both begin as he comes to the start of a PART (of which he must come to the start), as he is ahead of it");
        MovingStair x = Check.told(HEAD + "part steps 10 moves 5;part steps 10 moves 5 back;part steps 30 moves 0;walker pace 5;");
        // to PART 2 he does not come as he is: he must have begun by PART 1, to which he comes in a minute
        dueSpurt(x, 5, 2, 9, 1, 1);
        // 10 steps by 30, then 2 / 3 of a minute by 35, and 20 / 3 steps by 5
        dueSpurt(x, 30, 1, 10, 3, 1);
        dueSpurt(x, 5, 1, -1, -1, -1);
        x = Check.told(HEAD + "part steps 10 moves 30 back;part steps 10 moves 10;walker pace 0;");
        dueSpurt(x, 30, 60, -1, -1, -1);
        Check.due("nowhere to tie it", x.ties(0, 1), -1);

        Words.hold("III", "and end when so many minutes are over, wherever he is.");
        dueSpurt(Check.told(HEAD + "part steps 30 moves 0;walker pace 10;"), 10, 1, 2, 1, 0);
        // on a PART that he does not pass as he is
        dueSpurt(Check.told(HEAD + "part steps 10 moves 5 back;walker pace 5;"), 9, 1, -1, -1, -1);
        dueSpurt(Check.told(HEAD + "part steps 10 moves 5 back;walker pace 5;"), 10, 1, 1, 1, 0);
        // just at the end of PART 0
        dueSpurt(Check.told(HEAD + "part steps 20 moves 0;part steps 20 moves 0;walker pace 10;"), 10, 1, 3, 1, 0);
        dueLace(Check.told(HEAD + "part steps 20 moves 20;part steps 20 moves 0;walker pace 20;"), 1, 2, 1, 0);
    }

    // ---- promises 16 to 20 ----

    private static void lace() {
        Words.hold(16, "LACE (III): the least TIME of a WALKER who stops once for n (0 .. 60) minutes,"
                + " as he comes to some PART, above (what 0), below (1).");
        MovingStair x = Check.told(WAY);
        dueLace(x, 0, 29, 6, 0);
        dueLace(x, 1, 11, 2, 0);
        dueLace(x, 60, 377, 6, 0);
        // on the second PART, which carries him
        dueLace(Check.told(HEAD + "part steps 10 moves 0;part steps 10 moves 10;walker pace 10;"), 3, 4, 1, 1);
        dueLace(Check.told(HEAD + "part steps 10 moves 0;".repeat(3) + "part steps 10 moves 1;walker pace 10;"), 1, 53, 11, 3);
        Words.hold(16, "NONE: he never is there");
        for (int walker = 1; walker <= 2; walker++) {
            Check.dueFraction("lace of " + walker, x.lace(walker, 1, 0), x.lace(walker, 0, 1), -1, -1);
        }
        Words.hold(16, "-2: there are none such, no PARTS.");
        for (int none : OUT) {
            Check.due("walker " + none, x.lace(none, 1, 0), -2);
        }
        for (int n : new int[] {-1, 61, Integer.MAX_VALUE, Integer.MIN_VALUE}) {
            Check.due("n " + n, x.lace(0, n, 0), -2);
            Check.due("n " + n + " of never", x.lace(1, n, 0), -2);
        }
        for (int what : NO_WHAT) {
            Check.due("what " + what, x.lace(0, 1, what), -2);
            Check.due("what " + what + " of never", x.lace(1, 1, what), -2);
        }
        Check.due("no PARTS", Check.told(HEAD + "walker pace 1;").lace(0, 0, 0), -2);
        Check.due("no STAIR", new MovingStair().lace(0, 0, 0), -2);
    }

    private static void ties() {
        Words.hold(17, "The PART, the first of several, by which it is.");
        MovingStair alike = Check.told(HEAD + "part steps 10 moves 0;".repeat(4) + "walker pace 10;");
        Check.due("all alike", alike.ties(0, 9), 0);
        MovingStair two = Check.told(HEAD + "part steps 10 moves 0;part steps 20 moves 10;part steps 20 moves 10;walker pace 10;");
        Check.due("the second like the third", two.ties(0, 1), 1);
        Check.due("of 0 minutes", two.ties(0, 0), 0);
        Words.hold(17, "NONE, -2 likewise.");
        MovingStair x = Check.told(WAY);
        Check.due("never", x.ties(1, 1), -1);
        for (int none : OUT) {
            Check.due("walker " + none, x.ties(none, 1), -2);
        }
        for (int n : new int[] {-1, 61, Integer.MAX_VALUE, Integer.MIN_VALUE}) {
            Check.due("n " + n, x.ties(0, n), -2);
            Check.due("n " + n + " of never", x.ties(1, n), -2);
        }
        Check.due("the most", x.ties(0, 60), 0);
        Check.due("no PARTS", Check.told(HEAD + "walker pace 1;").ties(0, 0), -2);
        Check.due("no STAIR", new MovingStair().ties(0, 0), -2);
    }

    private static void saves() {
        Words.hold(18, "How much he would lose by tying it ahead of the way instead, above, below.");
        MovingStair x = Check.told(WAY);
        Check.dueFraction("of 0 minutes", x.saves(0, 0, 0), x.saves(0, 0, 1), 0, 1);
        Check.dueFraction("of 1", x.saves(0, 1, 0), x.saves(0, 1, 1), 1, 3);
        Check.dueFraction("of 60", x.saves(0, 60, 0), x.saves(0, 60, 1), 2, 1);
        MovingStair still = Check.told(HEAD + "part steps 9 moves 9 back;walker pace 10;");
        Check.dueFraction("nothing", still.saves(0, 7, 0), still.saves(0, 7, 1), 0, 1);
        MovingStair carried = Check.told(HEAD + "part steps 9 moves 10;walker pace 0;");
        Check.dueFraction("all of it", carried.saves(0, 60, 0), carried.saves(0, 60, 1), 9, 10);
        Words.hold(18, "NONE, -2 likewise.");
        Check.dueFraction("never", x.saves(1, 1, 0), x.saves(2, 0, 1), -1, -1);
        for (int none : OUT) {
            Check.due("walker " + none, x.saves(none, 1, 0), -2);
        }
        for (int n : new int[] {-1, 61, Integer.MAX_VALUE, Integer.MIN_VALUE}) {
            Check.due("n " + n, x.saves(0, n, 0), -2);
            Check.due("n " + n + " of never", x.saves(1, n, 0), -2);
        }
        for (int what : NO_WHAT) {
            Check.due("what " + what, x.saves(0, 1, what), -2);
            Check.due("what " + what + " of never", x.saves(1, 1, what), -2);
        }
        Check.due("no PARTS", Check.told(HEAD + "walker pace 1;").saves(0, 0, 0), -2);
        Check.due("no STAIR", new MovingStair().saves(0, 0, 0), -2);
    }

    private static void spurt() {
        Words.hold(19, "SPURT (III): the least TIME of a WALKER who once, as he comes to some PART,"
                + " goes faster by e (0 .. 30) for n (0 .. 60) minutes, above, below.");
        MovingStair x = Check.told(WAY);
        dueSpurt(x, 0, 0, 29, 6, 0);
        dueSpurt(x, 0, 60, 29, 6, 0);
        dueSpurt(x, 30, 0, 29, 6, 0);
        dueSpurt(x, 10, 1, 43, 10, 2);
        // 60 / 60, 30 / 50, 20 / 45
        dueSpurt(x, 30, 60, 92, 45, 0);
        MovingStair longest = Check.told(HEAD + "part steps 200 moves 29 back;".repeat(4) + "walker pace 30;");
        // 120 steps in the 60 minutes, the rest one by one
        dueSpurt(longest, 1, 60, 740, 1, 0);
        Words.hold(19, "NONE, -2 likewise, no such e.");
        Check.dueFraction("never", x.spurt(1, 0, 60, 0), x.spurt(1, 30, 0, 1), -1, -1);
        for (int none : OUT) {
            Check.due("walker " + none, x.spurt(none, 1, 1, 0), -2);
        }
        for (int e : new int[] {-1, 31, Integer.MAX_VALUE, Integer.MIN_VALUE}) {
            Check.due("e " + e, x.spurt(0, e, 1, 0), -2);
            Check.due("e " + e + " of never", x.spurt(2, e, 0, 0), -2);
        }
        for (int n : new int[] {-1, 61, Integer.MAX_VALUE, Integer.MIN_VALUE}) {
            Check.due("n " + n, x.spurt(0, 1, n, 0), -2);
        }
        for (int what : NO_WHAT) {
            Check.due("what " + what, x.spurt(0, 1, 1, what), -2);
            Check.due("what " + what + " of never", x.spurt(2, 0, 1, what), -2);
        }
        Check.due("no PARTS", Check.told(HEAD + "walker pace 1;").spurt(0, 0, 0, 0), -2);
        Check.due("no STAIR", new MovingStair().spurt(0, 0, 0, 0), -2);
    }

    private static void runs() {
        Words.hold(20, "The PART, the first of several, by which it is.");
        MovingStair alike = Check.told(HEAD + "part steps 20 moves 0;".repeat(4) + "walker pace 10;");
        Check.due("all alike", alike.runs(0, 10, 1), 0);
        Check.due("for 0 minutes", alike.runs(0, 30, 0), 0);
        Check.due("by 0", alike.runs(0, 0, 60), 0);
        MovingStair later = Check.told(HEAD + "part steps 20 moves 10;part steps 20 moves 0;part steps 20 moves 0;walker pace 10;");
        Check.due("the second like the third", later.runs(0, 10, 1), 1);
        Words.hold(20, "NONE, -2 likewise.");
        MovingStair x = Check.told(WAY);
        Check.due("never", x.runs(1, 0, 60), -1);
        for (int none : OUT) {
            Check.due("walker " + none, x.runs(none, 1, 1), -2);
        }
        for (int none : new int[] {-1, 61, Integer.MAX_VALUE, Integer.MIN_VALUE}) {
            Check.due("e " + none, x.runs(0, none, 1), -2);
            Check.due("n " + none, x.runs(0, 1, none), -2);
            Check.due("n " + none + " of never", x.runs(2, 0, none), -2);
        }
        Check.due("e 31", x.runs(0, 31, 1), -2);
        Check.due("the most", x.runs(0, 30, 60), 0);
        Check.due("no PARTS", Check.told(HEAD + "walker pace 1;").runs(0, 0, 0), -2);
        Check.due("no STAIR", new MovingStair().runs(0, 0, 0), -2);
    }

    // ---- promises 21 to 25 ----

    private static void train() {
        Words.hold(21, "TRAIN: the least e (0 .. 30) by which a WALKER, faster by it all the way, is there within n (0 .. 600) minutes.");
        MovingStair x = Check.told(HEAD + "part steps 30 moves 0;walker pace 0;walker pace 15;walker pace 1;walker pace 30;");
        Check.due("the most", x.train(0, 1), 30);
        Check.due("just", x.train(1, 2), 0);
        Check.due("not as he is", x.train(1, 1), 15);
        Check.due("as he is", x.train(3, 1), 0);
        Check.due("any", x.train(0, 600), 1);
        MovingStair slow = Check.told(HEAD + "part steps 150 moves 29 back;".repeat(4) + "walker pace 30;walker pace 29;");
        Check.due("just 600", slow.train(0, 600), 0);
        Check.due("just 600", slow.train(1, 600), 1);
        Check.due("599", slow.train(0, 599), 1);
        Check.due("at once", Check.told(HEAD + "walker pace 0;").train(0, 0), 0);
        // 7 / 2 minutes, by 1 faster 7 / 3
        MovingStair half = Check.told(HEAD + "part steps 7 moves 0;walker pace 2;");
        Check.due("half a minute to spare", half.train(0, 4), 0);
        Check.due("half a minute too late", half.train(0, 3), 1);
        Check.due("a third too late by 1", half.train(0, 2), 2);
        Words.hold(21, "NONE: by none");
        Check.due("no time", x.train(3, 0), -1);
        Check.due("31 would be needed", Check.told(HEAD + "part steps 31 moves 0;walker pace 0;").train(0, 1), -1);
        Check.due("31 would be needed", Check.told(HEAD + "part steps 1 moves 30 back;walker pace 0;").train(0, 600), -1);
        Words.hold(21, "-2: there are none such.");
        for (int none : OUT) {
            Check.due("walker " + none, x.train(none, 1), -2);
        }
        for (int n : new int[] {-1, 601, Integer.MAX_VALUE, Integer.MIN_VALUE}) {
            Check.due("n " + n, x.train(0, n), -2);
        }
        Check.due("no STAIR", new MovingStair().train(0, 0), -2);
    }

    private static void miss() {
        Words.hold(22, "By how many seconds he misses it, cut up, as he goes (0: he does not).");
        MovingStair x = Check.told(HEAD + "part steps 61 moves 0;walker pace 30;walker pace 7;walker pace 1;walker pace 0;");
        // 122 seconds, 522 and 6 / 7, 3,660
        Check.due("whole", x.miss(0, 2), 2);
        Check.due("does not", x.miss(0, 3), 0);
        Check.due("cut up", x.miss(1, 8), 43);
        Check.due("all of it", x.miss(1, 0), 523);
        Check.due("just not", x.miss(2, 61), 0);
        Check.due("a minute", x.miss(2, 60), 60);
        Check.due("far from it", x.miss(2, 600), 0);
        MovingStair slow = Check.told(HEAD + "part steps 200 moves 29 back;".repeat(4) + "walker pace 30;");
        Check.due("the most", slow.miss(0, 0), 48000);
        Check.due("600", slow.miss(0, 600), 12000);
        Words.hold(22, "NONE: he never is there");
        Check.due("never", x.miss(3, 600), -1);
        Words.hold(22, "-2 likewise.");
        for (int none : OUT) {
            Check.due("walker " + none, x.miss(none, 1), -2);
        }
        for (int n : new int[] {-1, 601, Integer.MAX_VALUE, Integer.MIN_VALUE}) {
            Check.due("n " + n, x.miss(0, n), -2);
            Check.due("n " + n + " of never", x.miss(3, n), -2);
        }
        Check.due("no STAIR", new MovingStair().miss(0, 0), -2);
    }

    private static void rests() {
        Words.hold(23, "Of how many minutes the longest stop (LACE, 0 .. 60, on the best PART) may be so that he is there within n.");
        MovingStair x = Check.told(HEAD + "part steps 10 moves 0;part steps 10 moves 10;walker pace 10;walker pace 0;");
        // one minute to PART 1, where he stops
        Check.due("over the end", x.rests(0, 4), 3);
        Check.due("just", x.rests(0, 2), 1);
        Check.due("the most, just", x.rests(0, 61), 60);
        Check.due("59", x.rests(0, 60), 59);
        Check.due("more than the most", x.rests(0, 600), 60);
        MovingStair still = Check.told(HEAD + "part steps 10 moves 0;walker pace 10;");
        Check.due("of 0", still.rests(0, 1), 0);
        Check.due("of 1", still.rests(0, 2), 1);
        // 7 / 2 minutes
        MovingStair half = Check.told(HEAD + "part steps 7 moves 0;walker pace 2;");
        Check.due("half a minute to spare", half.rests(0, 4), 0);
        Check.due("half a minute more to spare", half.rests(0, 5), 1);
        Check.due("half a minute too late", half.rests(0, 3), -1);
        Words.hold(23, "NONE: not even of 0");
        Check.due("too late", x.rests(0, 1), -1);
        Check.due("no time", still.rests(0, 0), -1);
        Check.due("never there", x.rests(1, 600), -1);
        Words.hold(23, "-2 likewise, no PARTS.");
        for (int none : OUT) {
            Check.due("walker " + none, x.rests(none, 1), -2);
        }
        for (int n : new int[] {-1, 601, Integer.MAX_VALUE, Integer.MIN_VALUE}) {
            Check.due("n " + n, x.rests(0, n), -2);
            Check.due("n " + n + " of never", x.rests(1, n), -2);
        }
        Check.due("no PARTS", Check.told(HEAD + "walker pace 1;").rests(0, 0), -2);
        Check.due("no STAIR", new MovingStair().rests(0, 0), -2);
    }

    private static void back() {
        Words.hold(24, "BACK: the TIME of a WALKER from the end to the start, each PART going the other way for him, above, below.");
        MovingStair x = Check.told(WAY);
        // 20 / 25, 30 / 20, 60 / 10
        Check.dueFraction("back", x.back(0, 0), x.back(0, 1), 83, 10);
        MovingStair alone = Check.told(HEAD + "part steps 6 moves 4 back;walker pace 0;");
        Check.dueFraction("carried back", alone.back(0, 0), alone.back(0, 1), 3, 2);
        MovingStair none = Check.told(HEAD + "walker pace 0;");
        Check.dueFraction("no PARTS", none.back(0, 0), none.back(0, 1), 0, 1);
        MovingStair just = Check.told(HEAD + "part steps 6 moves 29;walker pace 30;walker pace 29;walker pace 28;");
        Check.dueFraction("just", just.back(0, 0), just.back(0, 1), 6, 1);
        Words.hold(24, "NONE: he never comes there");
        Check.dueFraction("together 0", just.back(1, 0), just.back(1, 1), -1, -1);
        Check.dueFraction("together below 0", just.back(2, 0), just.back(2, 1), -1, -1);
        Words.hold(24, "-2 as time().");
        for (int walker : OUT) {
            Check.due("walker " + walker, x.back(walker, 0), -2);
        }
        for (int what : NO_WHAT) {
            Check.due("what " + what, x.back(0, what), -2);
            Check.due("what " + what + " of never", x.back(2, what), -2);
        }
        Check.due("no STAIR", new MovingStair().back(0, 0), -2);
    }

    private static void round() {
        Words.hold(25, "The WALKER of least TIME there and back together, the first of several.");
        Check.due("the first of two", Check.told(WAY).round(), 0);
        Check.due("a later one", Check.told(HEAD + "part steps 1 moves 9;walker pace 10;walker pace 11;walker pace 11;").round(), 1);
        Check.due("the last of eight", Check.told(HEAD + "part steps 1 moves 9;" + "walker pace 9;".repeat(7)
                + "walker pace 10;").round(), 7);
        Check.due("no PARTS", Check.told(HEAD + "walker pace 0;walker pace 9;").round(), 0);
        // fractions whose products across do not fit in a long
        Check.due("long fractions", Check.told(HEAD + "part steps 199 moves 1;part steps 193 moves 7;part steps 197 moves 11;"
                + "part steps 191 moves 13;walker pace 29;walker pace 30;walker pace 30;").round(), 1);
        Words.hold(25, "NONE: none does both");
        Check.due("there alone, back alone", Check.told(HEAD + "part steps 1 moves 9;walker pace 9;walker pace 0;").round(), -1);
        Check.due("back alone", Check.told(HEAD + "part steps 1 moves 9 back;walker pace 9;").round(), -1);
        Check.due("no WALKERS", Check.told(HEAD).round(), -1);
        Words.hold(25, "-2: there is no STAIR.");
        Check.due("no STAIR", new MovingStair().round(), -2);
    }
}

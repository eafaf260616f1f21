import java.util.Arrays;

/** Promises 1 to 7 and 57: the TAPE, the STAIR, its FAULTS, and what there is of it. */
public final class TapeTest {
    private static final String HEAD = "stair odds 0;";

    public static void main(String[] args) {
        newObject();
        feeding();
        ending();
        stairs();
        oneAfterAnother();
        tokens();
        faults();
        outOfBounds();
        tooMany();
        afterFault();
        partsAndWalkers();
        counting();
        Check.finish("TapeTest");
    }

    private static void newObject() {
        MovingStair x = new MovingStair();
        for (int what = 0; what <= 9; what++) {
            Check.due("new: count " + what, x.count(what), 0);
        }
        Check.due("new: first", x.first(), -2);
        Check.due("new: fault(0)", x.fault(0), 0);
        Check.due("new: fault(1)", x.fault(1), -1);
        Check.due("new: back(0)", x.back(0), -6);
        Check.due("NONE", MovingStair.NONE, -1);
    }

    private static void feeding() {
        MovingStair x = new MovingStair();
        for (int i = 1; i <= 45; i++) {
            Check.due("feed " + i, x.feed(1, 2, 3, 4, 5), 20 * i);
        }
        Check.due("feed beyond", x.feed(0, 0, 0, 0, 0), -1);
        Check.due("bytes", x.count(8), 900);
        Check.due("end(899)", x.end(899), 899);
        Check.due("feed beyond by one", x.feed(0, 0, 0, 0, 0), -1);
        Check.due("end(881)", x.end(881), 881);
        Check.due("feed beyond by one byte", x.feed(0, 0, 0, 0, 0), -1);
        Check.due("end(880)", x.end(880), 880);
        Check.due("feed to the brim", x.feed(0, 0, 0, 0, 0), 900);
        MovingStair y = new MovingStair();
        // "stair odds 7 ;" with the highest byte first
        Check.due("feed", y.feed(0x73746169, 0x72206f64, 0x64732037, 0x203b2020, 0x20202020), 20);
        Check.due("stair", y.stair(), 1);
        Check.due("odds", y.count(3), 7);
    }

    private static void ending() {
        MovingStair x = new MovingStair();
        Check.due("end(0) of nothing", x.end(0), 0);
        Check.due("end(1) of nothing", x.end(1), -1);
        x.feed(0, 0, 0, 0, 0);
        Check.due("end(-1)", x.end(-1), -1);
        Check.due("end(21)", x.end(21), -1);
        Check.due("bytes stay", x.count(8), 20);
        Check.due("end(20)", x.end(20), 20);
        Check.due("end(3)", x.end(3), 3);
        Check.due("end(4)", x.end(4), -1);
        Check.due("bytes", x.count(8), 3);
    }

    private static void stairs() {
        MovingStair x = new MovingStair();
        Check.due("lines", Check.tell(x, HEAD + "part steps 5 moves 3;walker pace 2;"), 3);
        Check.due("the tape is empty", x.count(8), 0);
        x.set(0, -3);
        Check.due("another", Check.tell(x, HEAD + "walker pace 9;"), 2);
        Check.due("nothing done", x.count(6), 0);
        Check.due("no parts", x.count(0), 0);
        Check.due("pace", x.walker(0), 9);
        Check.due("none", x.stair(), 0);
        Check.due("no lines", x.count(7), 0);
        Check.due("no odds", x.count(3), 0);
        Check.due("no walker", x.walker(0), -2);
        Check.due("blanks alone", Check.tell(x, " \n \n"), 0);
        Check.due("no stair", x.never(), -2);
    }

    /** What an earlier text told must not be left over for a later one, nor what a faulty one told. */
    private static void oneAfterAnother() {
        MovingStair x = new MovingStair();
        String all = "stair odds 5;part steps 1 moves 1;walker pace 1;band 1;band 2;sides stand 1 walk 1 pace 1 would 1;";
        for (int i = 0; i < 6; i++) {
            Check.due("all", Check.tell(x, all), 6);
            Check.due("parts", x.count(0), 1);
            Check.due("walkers", x.count(1), 1);
            Check.due("bands", x.count(2), 2);
            Check.due("faulty", Check.tell(x, all + "?"), -4);
        }
        x.reverse();
        Check.due("the head alone", Check.tell(x, HEAD), 1);
        for (int what = 0; what <= 6; what++) {
            Check.due("none of " + what, x.count(what), 0);
        }
        x.stair();
        Check.tell(x, all);
        x.stair();
        Check.due("no odds without a stair", x.count(3), 0);
    }

    private static void tokens() {
        MovingStair x = new MovingStair();
        Check.due("without blanks", Check.tell(x, "stair odds5;part steps7moves3back;"), 2);
        Check.due("steps", x.part(0, 0), 7);
        Check.due("speed", x.part(0, 1), -3);
        Check.due("odds", x.count(3), 5);
        Check.due("many blanks", Check.tell(x, "\n stair \n odds  5 ;\n\n band 9999 ; "), 2);
        Check.due("noughts ahead", Check.tell(x, "stair odds 000000000000000100;"), 1);
        Check.due("odds", x.count(3), 100);
        Check.due("nothing moves back", Check.tell(x, HEAD + "part steps 1 moves 0 back;"), 2);
        Check.due("speed", x.part(0, 1), 0);
        Check.due("later sides strike", Check.tell(x, HEAD + "part steps 1 moves 9;"
                + "sides stand 9 walk 9 pace 30 would 0;sides stand 3 walk 1 pace 1 would 100;"), 4);
        Check.dueFraction("stand", x.stand(0, 0), x.stand(0, 1), 6, 1);
    }

    private static void fault(String text, int kind, int place) {
        MovingStair x = new MovingStair();
        Check.due("stair of " + text, Check.tell(x, text), -4);
        Check.due("fault(0) of " + text, x.fault(0), kind);
        Check.due("fault(1) of " + text, x.fault(1), place);
        Check.due("fault(2)", x.fault(2), -1);
        Check.due("fault(-1)", x.fault(-1), -1);
        Check.due("no stair", x.count(7), 0);
    }

    private static void faults() {
        fault("walker pace 5;", 1, 0);
        fault("odds", 1, 0);
        fault(";", 1, 0);
        fault("7", 1, 0);
        fault("stair", 1, 5);
        fault("stair  \n", 1, 8);
        fault("stair odds", 1, 10);
        fault("stair odds 5", 1, 12);
        fault("stair odds ;", 1, 11);
        fault("stair 5;", 1, 6);
        fault("stairs odds 5;", 1, 0);
        fault("stair odds 5 5;", 1, 13);
        fault("stair odds -5;", 1, 11);
        fault("stair odds 5;;", 1, 13);
        fault("stair odds 5;stair odds 5;", 1, 13);
        fault("stair odds 5; back;", 1, 14);
        fault("stair odds 5;Part", 1, 13);
        fault("stair odds 5\t;", 1, 12);
        fault("stair odds 5" + (char) 0 + ";", 1, 12);
        fault("stair odds 5;" + (char) 233, 1, 13);
        fault(HEAD + "part steps 5 moves 3 back back;", 1, 39);
        fault(HEAD + "part moves 3 steps 5;", 1, 18);
        fault(HEAD + "part steps 5;", 1, 25);
        fault(HEAD + "walker pace 5 back;", 1, 27);
        fault(HEAD + "sides stand 1 walk 1 pace 1;", 1, 40);
        fault(HEAD + "band;", 1, 17);
        fault(HEAD + "partsteps 5 moves 3;", 1, 13);
        fault(HEAD + "partz steps 5 moves 3;", 1, 13);
        fault(HEAD + "azpart", 1, 13);
        fault(HEAD + "bart steps 5 moves 3;", 1, 13);
        fault(HEAD + "park steps 5 moves 3;", 1, 13);
        fault(HEAD + "par steps 5 moves 3;", 1, 13);
        fault("xtair odds 5;", 1, 0);
        fault("stair addt 5;", 1, 6);
    }

    private static void outOfBounds() {
        fault("stair odds 101;", 2, 11);
        fault("stair odds 101", 2, 11);
        fault("stair odds 4294967296;", 2, 11);
        fault("stair odds 18446744073709551617000000000000000000;", 2, 11);
        fault(HEAD + "part steps 0 moves 1;", 2, 24);
        fault(HEAD + "part steps 201 moves 1;", 2, 24);
        fault(HEAD + "part steps 200 moves 31;", 2, 34);
        fault(HEAD + "part steps 201 moves 31 ?", 2, 24);
        fault(HEAD + "walker pace 31;", 2, 25);
        fault(HEAD + "sides stand 0 walk 1 pace 1 would 1;", 2, 25);
        fault(HEAD + "sides stand 10 walk 1 pace 1 would 1;", 2, 25);
        fault(HEAD + "sides stand 9 walk 0 pace 1 would 1;", 2, 32);
        fault(HEAD + "sides stand 9 walk 10 pace 1 would 1;", 2, 32);
        fault(HEAD + "sides stand 9 walk 9 pace 0 would 1;", 2, 39);
        fault(HEAD + "sides stand 9 walk 9 pace 31 would 1;", 2, 39);
        fault(HEAD + "sides stand 9 walk 9 pace 30 would 101;", 2, 48);
        fault(HEAD + "band 0;", 2, 18);
        fault(HEAD + "band 10000;", 2, 18);
    }

    private static void tooMany() {
        fault(HEAD + "part steps 1 moves 1;".repeat(4) + "part", 3, 97);
        fault(HEAD + "part steps 1 moves 1;".repeat(4) + "part steps 0;", 3, 97);
        fault(HEAD + "walker pace 5;".repeat(8) + "walker", 3, 125);
        fault(HEAD + "band 1;".repeat(4) + "band", 3, 41);
        fault(HEAD + "band 1;".repeat(4) + "bands", 1, 41);
        MovingStair x = Check.told(HEAD + "part steps 1 moves 1;".repeat(4) + "walker pace 5;".repeat(8)
                + "band 1;".repeat(4));
        Check.due("lines", x.count(7), 17);
        Check.due("part 3", x.part(3, 0), 1);
        Check.due("walker 7", x.walker(7), 5);
        Check.due("sides may be many", Check.tell(x, HEAD + "sides stand 1 walk 1 pace 1 would 1;".repeat(10)), 11);
    }

    private static void afterFault() {
        MovingStair x = Check.told("stair odds 9;part steps 5 moves 3;");
        x.set(0, 7);
        Check.feedText(x, "stair odds 5;walker pace 99;");
        Check.due("faulty", x.stair(), -4);
        Check.due("its place", x.fault(1), 25);
        Check.due("the stair stays", x.count(3), 9);
        Check.due("its acts stay", x.part(0, 1), 7);
        // read so: the TAPE is used up by a faulty text too
        Check.due("the tape", x.count(8), 0);
        Check.due("a good one", Check.tell(x, HEAD), 1);
        Check.due("no fault", x.fault(0), 0);
        Check.due("no place", x.fault(1), -1);
    }

    private static void partsAndWalkers() {
        MovingStair x = Check.told(HEAD + "part steps 200 moves 30;part steps 1 moves 30 back;walker pace 0;walker pace 30;");
        Check.due("steps", x.part(0, 0), 200);
        Check.due("speed", x.part(0, 1), 30);
        Check.due("speed back", x.part(1, 1), -30);
        Check.due("set", x.set(1, 4), -30);
        Check.due("speed now", x.part(1, 1), 4);
        for (int none : new int[] {-1, 2, 3, 4, Integer.MAX_VALUE, Integer.MIN_VALUE}) {
            Check.due("part " + none, x.part(none, 0), -1000);
            Check.due("what " + none, x.part(0, none), -1000);
            Check.due("walker " + none, x.walker(none), -2);
        }
        Check.due("walker 0", x.walker(0), 0);
        Check.due("walker 1", x.walker(1), 30);
    }

    private static void counting() {
        MovingStair x = Check.told("stair odds 12;part steps 10 moves 1;walker pace 1;walker pace 2;part steps 15 moves 1;"
                + "band 5;band 6;band 7;sides stand 1 walk 1 pace 1 would 1;");
        x.row(3, 0, 0);
        x.reverse();
        x.feed(0, 0, 0, 0, 0);
        Check.due("count", Arrays.hashCode(counts(x)),
                Arrays.hashCode(new int[] {2, 2, 3, 12, 25, 1, 1, 9, 20, 1, -1, -1}));
        Check.due("count(-1)", x.count(-1), -1);
        Check.due("count(max)", x.count(Integer.MAX_VALUE), -1);
    }

    private static int[] counts(MovingStair x) {
        int[] all = new int[12];
        for (int i = 0; i < all.length; i++) {
            all[i] = x.count(i);
        }
        return all;
    }
}

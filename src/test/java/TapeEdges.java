/** The edges of promises 1 to 7 and 57 and of term I: the TAPE, the STAIR, its FAULTS. */
final class TapeEdges {
    private static final String HEAD = "stair odds 0;";
    private static final String PART = "part steps 1 moves 1;";
    private static final String WALKER = "walker pace 5;";
    private static final String BAND = "band 1;";
    private static final String SIDES = "sides stand 1 walk 1 pace 1 would 1;";
    private static final int BLANKS = 0x20202020;
    private static final int[] OUT = {-1, -2, 1000, Integer.MAX_VALUE, Integer.MIN_VALUE};

    private TapeEdges() {
    }

    static void all() {
        newObject();
        feed();
        feedFull();
        end();
        stair();
        stairFault();
        fault();
        part();
        walker();
        lines();
        bounds();
        numbering();
        tokens();
        faultPlaces();
        faultKinds();
        count();
    }

    // ---- promises 1 to 3 ----

    private static void newObject() {
        Words.hold(1, "No STAIR.");
        MovingStair x = new MovingStair();
        Check.due("first()", x.first(), -2);
        Check.due("reverse()", x.reverse(), -2);
        for (int what = 0; what <= 9; what++) {
            Check.due("count(" + what + ")", x.count(what), 0);
        }
        for (int k = 0; k <= 2; k++) {
            Check.due("back(" + k + ")", x.back(k), -6);
        }
    }

    /** Feeds blanks and one "?" at a place from 0 to 19. */
    private static int feedAt(MovingStair x, int place) {
        int[] fed = {BLANKS, BLANKS, BLANKS, BLANKS, BLANKS};
        int shift = 24 - 8 * (place % 4);
        fed[place / 4] = fed[place / 4] & ~(255 << shift) | '?' << shift;
        return x.feed(fed[0], fed[1], fed[2], fed[3], fed[4]);
    }

    private static void feed() {
        Words.hold(2, "Twenty bytes come behind the TAPE, four of each number, the highest first: how many it has");
        for (int ahead = 0; ahead <= 3; ahead++) {
            for (int place = 0; place < 20; place++) {
                MovingStair x = new MovingStair();
                x.feed(BLANKS, BLANKS, BLANKS, BLANKS, BLANKS);
                x.end(ahead);
                Check.due("feed behind " + ahead, feedAt(x, place), ahead + 20);
                Check.due("count(8)", x.count(8), ahead + 20);
                Check.due("stair()", x.stair(), -4);
                Check.due("fault(1)", x.fault(1), ahead + place);
            }
        }
    }

    private static void feedFull() {
        Words.hold(2, "NONE, and none come, if it would have more than 900");
        MovingStair x = new MovingStair();
        Check.feedText(x, HEAD);
        for (int left = 13; left + 20 <= 900; left += 20) {
            Check.due("feed", x.feed(BLANKS, BLANKS, BLANKS, BLANKS, BLANKS), left + 20);
        }
        Check.due("count(8)", x.count(8), 893);
        Check.due("893 and 20", feedAt(x, 0), -1);
        Check.due("none come", x.count(8), 893);
        for (int bytes = 892; bytes >= 881; bytes--) {
            x.end(bytes);
            Check.due(bytes + " and 20", feedAt(x, 0), -1);
            Check.due("none come", x.count(8), bytes);
        }
        x.end(880);
        Check.due("880 and 20", x.feed(BLANKS, BLANKS, BLANKS, BLANKS, BLANKS), 900);
        Check.due("900 and 20", feedAt(x, 0), -1);
        Check.due("none come", x.count(8), 900);
        Check.due("the bytes stay", x.stair(), 1);
        Check.due("empty again", feedAt(x, 0), 20);
    }

    private static void end() {
        Words.hold(3, "The TAPE has its first n bytes alone: n");
        MovingStair x = new MovingStair();
        Check.due("none of none", x.end(0), 0);
        Check.feedText(x, HEAD + "????");
        Check.due("all", x.end(17), 17);
        Check.due("some", x.end(13), 13);
        Check.due("count(8)", x.count(8), 13);
        Check.feedText(x, BAND);
        Check.due("those alone", x.stair(), 2);
        Check.feedText(x, "?");
        Check.due("none", x.end(0), 0);
        Check.due("count(8)", x.count(8), 0);
        Check.due("none of them", x.stair(), 0);

        Words.hold(3, "NONE, and nothing happens, if it has not so many, or n is below 0");
        Check.due("1 of none", x.end(1), -1);
        Check.feedText(x, HEAD);
        for (int n : new int[] {14, 20, 900, Integer.MAX_VALUE, -1, Integer.MIN_VALUE}) {
            Check.due("end(" + n + ")", x.end(n), -1);
            Check.due("count(8)", x.count(8), 13);
        }
        Check.due("the bytes stay", x.stair(), 1);
    }

    // ---- promises 4 to 7 ----

    private static void stair() {
        Words.hold(4, "The TAPE (empty then) is the STAIR (in place of another), nothing done: how many LINES");
        MovingStair x = new MovingStair();
        Check.due("one LINE", Check.tell(x, "stair odds 9;"), 1);
        Check.due("empty then", x.count(8), 0);
        Check.due("17 LINES", Check.tell(x, HEAD + PART.repeat(4) + WALKER.repeat(8) + BAND.repeat(4)), 17);
        Check.due("in place of another", x.count(3), 0);
        x.set(0, 2);
        x.reverse();
        x.grow(0, 9);
        Check.due("the same again", Check.tell(x, HEAD + PART + WALKER), 3);
        Check.due("nothing done", x.count(6), 0);
        Check.due("nothing set", x.part(0, 1), 1);
        Check.due("nobody grown", x.walker(0), 5);
        Check.due("nothing to take back", x.undo(), -5);
        Check.due("one part", x.part(1, 0), -1000);
        Check.due("one walker", x.walker(1), -2);
        Check.due("no band", x.count(2), 0);
        Check.due("all that a TAPE holds", Check.tell(x, HEAD + SIDES.repeat(24) + " ".repeat(900 - 13 - 24 * 36)), 25);

        Words.hold(4, "(0: there is none then)");
        for (String text : new String[] {"", " ", "\n", " \n \n  "}) {
            Check.tell(x, "stair odds 9;" + PART + WALKER + BAND + SIDES);
            x.reverse();
            Check.due("no LINE", Check.tell(x, text), 0);
            Check.due("empty", x.count(8), 0);
            Check.due("first()", x.first(), -2);
            Check.due("reverse()", x.reverse(), -2);
            Check.due("part(0, 0)", x.part(0, 0), -1000);
            for (int what = 0; what <= 7; what++) {
                Check.due("count(" + what + ")", x.count(what), 0);
            }
        }
    }

    private static void stairFault() {
        Words.hold(4, "-4: a FAULT (all stays)");
        MovingStair x = Check.told("stair odds 9;part steps 7 moves 3;walker pace 4;band 8;" + SIDES);
        Check.fill(x, 2, 1, 8, 8, 8, 8);
        x.grow(0, 6);
        x.set(0, -2);
        x.image(1);
        x.reverse();
        int[] before = new int[8];
        for (int what = 0; what < 8; what++) {
            before[what] = x.count(what);
        }
        for (String text : new String[] {";", "?", "stair odds 1;part steps 9 moves 9;walker pace 31;", HEAD + BAND.repeat(5), "stair"}) {
            Check.due("stair()", Check.tell(x, text), -4);
            for (int what = 0; what < 8; what++) {
                Check.due("count(" + what + ")", x.count(what), before[what]);
            }
            Check.due("steps", x.part(0, 0), 7);
            Check.due("SPEED", x.part(0, 1), 2);
            Check.due("pace", x.walker(0), 6);
            Check.due("rows", x.count(9), 1);
            Check.due("BANDS", x.turn(2, 0), 16);
            Check.dueFraction("SIDES", x.stand(0, 0), x.stand(0, 1), 4, 1);
        }
        Check.due("acts", x.undo(), 1);
        Check.due("SPEED", x.part(0, 1), -2);
        Check.due("IMAGES", x.back(1), 0);
        MovingStair none = new MovingStair();
        Check.due("stair()", Check.tell(none, "stair odds 7"), -4);
        Check.due("none stays none", none.first(), -2);
        // the STAIR and all else stays; the TAPE has been read, and is empty then, as NOTES.md tells
        Check.due("the TAPE", none.count(8), 0);
        Check.feedText(none, HEAD);
        Check.due("a text of its own", none.stair(), 1);
    }

    private static void fault() {
        Words.hold(5, "NONE for another what, and ahead of any (what 1).");
        MovingStair x = new MovingStair();
        Check.due("ahead of any", x.fault(1), -1);
        Check.due("ahead of any", x.fault(0), 0);
        for (int what : new int[] {-1, 2, 3, Integer.MAX_VALUE, Integer.MIN_VALUE}) {
            Check.due("ahead of any, fault(" + what + ")", x.fault(what), -1);
        }
        Check.tell(x, "stair odds 101;");
        for (int what : new int[] {-1, 2, 3, Integer.MAX_VALUE, Integer.MIN_VALUE}) {
            Check.due("fault(" + what + ")", x.fault(what), -1);
        }

        Words.hold(5, "Of the latest stair(), what 0: its FAULT, 0 without, 1: its place (NONE without).");
        fault(x, "stair odds 101;", 2, 11);
        fault(x, "", 0, -1);
        fault(x, "?", 1, 0);
        fault(x, HEAD, 0, -1);
        fault(x, HEAD + BAND.repeat(5), 3, 41);
        fault(x, HEAD, 0, -1);
        fault(x, "stair odds 101;", 2, 11);
        x.image(0);
        x.back(0);
        x.reverse();
        Check.due("the latest still", x.fault(0), 2);
        Check.due("the latest still", x.fault(1), 11);
    }

    private static void fault(MovingStair x, String text, int kind, int place) {
        int answer = Check.tell(x, text);
        Check.due("stair() of " + text, answer < 0 ? answer : 0, kind == 0 ? 0 : -4);
        Check.due("fault(0) of " + text, x.fault(0), kind);
        Check.due("fault(1) of " + text, x.fault(1), place);
    }

    private static void fault(String text, int kind, int place) {
        fault(new MovingStair(), text, kind, place);
    }

    private static void part() {
        Words.hold(6, "Of a PART now, what 0: steps, 1: SPEED (below 0: it goes back).");
        MovingStair x = Check.told(HEAD + "part steps 200 moves 30 back;part steps 1 moves 0;" + PART + "part steps 9 moves 30;");
        Check.due("steps", x.part(0, 0), 200);
        Check.due("SPEED back", x.part(0, 1), -30);
        Check.due("SPEED of a still one", x.part(1, 1), 0);
        Check.due("the last", x.part(3, 0), 9);
        Check.due("the last", x.part(3, 1), 30);
        x.set(3, -4);
        Check.due("now", x.part(3, 1), -4);
        Check.due("steps now", x.part(3, 0), 9);
        x.reverse();
        Check.due("now", x.part(0, 1), 30);

        Words.hold(6, "-1,000: there are none such.");
        for (int none : OUT) {
            Check.due("part " + none, x.part(none, 0), -1000);
            Check.due("what " + none, x.part(0, none), -1000);
        }
        Check.due("part 4", x.part(4, 1), -1000);
        Check.due("what 2", x.part(0, 2), -1000);
        Check.due("a 2nd of one", Check.told(HEAD + PART).part(1, 0), -1000);
        Check.due("no PARTS", Check.told(HEAD).part(0, 0), -1000);
        Check.due("no STAIR", new MovingStair().part(0, 1), -1000);
    }

    private static void walker() {
        Words.hold(7, "The pace of a WALKER.");
        MovingStair x = Check.told(HEAD + "walker pace 0;walker pace 30;" + WALKER.repeat(5) + "walker pace 29;");
        Check.due("least", x.walker(0), 0);
        Check.due("most", x.walker(1), 30);
        Check.due("the last", x.walker(7), 29);
        x.grow(7, 3);
        Check.due("now", x.walker(7), 3);

        Words.hold(7, "-2: there is none such.");
        for (int none : OUT) {
            Check.due("walker " + none, x.walker(none), -2);
        }
        Check.due("walker 8", x.walker(8), -2);
        Check.due("a 2nd of one", Check.told(HEAD + WALKER).walker(1), -2);
        Check.due("no WALKERS", Check.told(HEAD + PART).walker(0), -2);
        Check.due("no STAIR", new MovingStair().walker(0), -2);
    }

    // ---- term I ----

    private static void lines() {
        Words.hold("I", "STAIR: {LINE ;}.");
        Check.due("no LINE", Check.tell(new MovingStair(), ""), 0);
        fault(";", 1, 0);
        fault(HEAD + ";", 1, 13);
        fault("stair odds 0", 1, 12);
        fault(HEAD + "band 1", 1, 19);
        fault(HEAD + "band 1 band 1;", 1, 20);

        Words.hold("I", "LINE: stair odds N | part steps N moves N [back] | walker pace N"
                + " | sides stand N walk N pace N would N | band N.");
        String[] forms = {"part steps 5 moves 3 ;", "part steps 5 moves 3 back ;", "walker pace 7 ;",
            "sides stand 1 walk 1 pace 1 would 1 ;", "band 3 ;"};
        missingTokens("", "stair odds 5 ;");
        otherWords("", "stair odds 5 ;");
        for (String form : forms) {
            Check.due(form, Check.tell(new MovingStair(), HEAD + form), 2);
            missingTokens(HEAD, form);
            otherWords(HEAD, form);
        }
        fault(HEAD + "part steps 5 moves 3 back back;", 1, 39);
        fault(HEAD + "walker pace 7 back;", 1, 27);
        fault(HEAD + "band back 3;", 1, 18);
        fault(HEAD + "part steps 5 back moves 3;", 1, 26);

        Words.hold("I", "stair is the first LINE and no other");
        for (String form : forms) {
            fault(form, 1, 0);
            fault(form + HEAD, 1, 0);
        }
        fault(HEAD + HEAD, 1, 13);
        fault(HEAD + BAND + HEAD, 1, 20);
    }

    /** Each TOKEN taken away (but back) or doubled is a FAULT at what stands behind it. */
    private static void missingTokens(String ahead, String form) {
        String[] tokens = form.split(" ");
        for (int gone = 0; gone < tokens.length; gone++) {
            StringBuilder shorter = new StringBuilder(ahead);
            StringBuilder longer = new StringBuilder(ahead);
            int place = 0;
            int second = 0;
            for (int i = 0; i < tokens.length; i++) {
                if (i == gone) {
                    place = shorter.length();
                    second = longer.length() + tokens[i].length() + 1;
                    longer.append(tokens[i]).append(' ');
                } else {
                    shorter.append(tokens[i]).append(' ');
                }
                longer.append(tokens[i]).append(' ');
            }
            fault(longer.toString(), 1, second);
            if (!tokens[gone].equals("back")) {
                fault(shorter.toString(), 1, place);
            }
        }
    }

    /** Each letter of each word put by another one is a FAULT at that word. */
    private static void otherWords(String ahead, String form) {
        int place = 0;
        for (int i = 0; i < form.length(); i++) {
            if (i > 0 && form.charAt(i - 1) == ' ') {
                place = i;
            }
            if (Character.isLetter(form.charAt(i))) {
                String other = form.substring(0, i) + 'x' + form.substring(i + 1);
                fault(ahead + other, 1, ahead.length() + place);
            }
        }
    }

    /** A number of a LINE has its least and its most, and none beyond. */
    private static void bounded(String ahead, String behind, int least, int most) {
        Check.due(ahead + least, Math.min(0, Check.tell(new MovingStair(), ahead + least + behind)), 0);
        Check.due(ahead + most, Math.min(0, Check.tell(new MovingStair(), ahead + most + behind)), 0);
        if (least > 0) {
            fault(ahead + (least - 1) + behind, 2, ahead.length());
        }
        for (String more : new String[] {String.valueOf(most + 1), "2147483648", "4294967297", "18446744073709551617", "9".repeat(300)}) {
            fault(ahead + more + behind, 2, ahead.length());
        }
        fault(ahead + "-1" + behind, 1, ahead.length());
    }

    private static void bounds() {
        Words.hold("I", "odds 0 .. 100.");
        bounded("stair odds ", ";", 0, 100);
        Check.due("most", Check.told("stair odds 100;").count(3), 100);
        Words.hold("I", "part: steps 1 .. 200, moves 0 .. 30.");
        bounded(HEAD + "part steps ", " moves 3;", 1, 200);
        bounded(HEAD + "part steps 3 moves ", ";", 0, 30);
        bounded(HEAD + "part steps 3 moves ", " back;", 0, 30);
        Words.hold("I", "walker: pace 0 .. 30.");
        bounded(HEAD + "walker pace ", ";", 0, 30);
        Words.hold("I", "sides (later ones strike)");
        MovingStair x = Check.told(HEAD + "part steps 1 moves 9;sides stand 1 walk 1 pace 1 would 0;" + BAND
                + "sides stand 3 walk 7 pace 5 would 100;");
        Check.dueFraction("stand", x.stand(0, 0), x.stand(0, 1), 6, 1);
        Check.dueFraction("walk", x.walk(0, 0), x.walk(0, 1), 2, 1);
        Words.hold("I", "stand, walk 1 .. 9, pace 1 .. 30, would 0 .. 100.");
        bounded(HEAD + "sides stand ", " walk 1 pace 1 would 1;", 1, 9);
        bounded(HEAD + "sides stand 1 walk ", " pace 1 would 1;", 1, 9);
        bounded(HEAD + "sides stand 1 walk 1 pace ", " would 1;", 1, 30);
        bounded(HEAD + "sides stand 1 walk 1 pace 1 would ", ";", 0, 100);
        Words.hold("I", "band: 1 .. 9,999.");
        bounded(HEAD + "band ", ";", 1, 9999);
    }

    private static void numbering() {
        Words.hold("I", "PARTS 0 .. 3, WALKERS 0 .. 7, BANDS 0 .. 3 are numbered as they stand.");
        StringBuilder text = new StringBuilder("stair odds 0;");
        for (int i = 0; i < 8; i++) {
            text.append("walker pace ").append(20 + i).append(';');
            if (i % 2 == 1) {
                text.append("band ").append(1 << i / 2).append(";part steps ").append(10 + i / 2).append(" moves 1;");
            }
        }
        MovingStair x = Check.told(text.toString());
        for (int i = 0; i < 8; i++) {
            Check.due("walker " + i, x.walker(i), 20 + i);
        }
        for (int i = 0; i < 4; i++) {
            Check.due("part " + i, x.part(i, 0), 10 + i);
            // the BAND that carries just so many is the one that goes up
            Check.fill(x, 0, 1, 1 << i, 15 - (1 << i));
            Check.due("band " + i, x.turned(0, 0, 0), 1 << i);
        }
    }

    private static void tokens() {
        Words.hold("I", "TOKENS, blanks (32, 10) aside");
        Check.due("blanks all over", Check.tell(new MovingStair(), " \n stair\nodds\n \n5 ; \nband\n3;\n"), 2);
        Check.due("none where none are needed", Check.tell(new MovingStair(), "stair odds5;part steps5moves3back;band3;"), 3);
        Words.hold("I", "the longest: words (a .. z), numbers (digits), the sign ; .");
        for (int sign = 0; sign < 256; sign++) {
            anySign((char) sign);
        }
        fault("stairodds 5;", 1, 0);
        fault("stai r odds 5;", 1, 0);
        fault("stair odds 1 0;", 1, 13);
        fault(HEAD + "partsteps 5 moves 3;", 1, 13);
        fault(HEAD + "part steps 5 moves 3backs;", 1, 33);
        MovingStair x = Check.told("stair odds 0000000000000000000000042;");
        Check.due("noughts ahead", x.count(3), 42);
    }

    /** One byte of any kind behind a number, and between a word and a number. */
    private static void anySign(char sign) {
        boolean blank = sign == 32 || sign == 10;
        boolean digit = sign >= '0' && sign <= '9';
        boolean letter = sign >= 'a' && sign <= 'z';
        String name = "sign " + (int) sign;
        MovingStair x = new MovingStair();
        Check.tell(x, "stair odds 5 " + sign + ";");
        Check.due(name + " alone", x.fault(0), blank ? 0 : 1);
        Check.due(name + " alone, place", x.fault(1), blank ? -1 : sign == ';' ? 14 : 13);
        Check.tell(x, "stair odds" + sign + "5;");
        Check.due(name + " between", x.fault(0), blank || digit ? 0 : 1);
        Check.due(name + " between, place", x.fault(1), blank || digit ? -1 : letter ? 6 : 10);
        if (digit) {
            Check.due(name + " and 5", x.count(3), 10 * (sign - '0') + 5);
        }
    }

    private static void faultPlaces() {
        Words.hold("I", "FAULTS, the first by its place");
        fault("stair odds 101 ?", 2, 11);
        fault("stair ? odds 101", 1, 6);
        fault(HEAD + BAND.repeat(4) + "band 0;", 3, 41);
        fault(HEAD + "band 0;" + BAND.repeat(5), 2, 18);
        fault("stair odds 101", 2, 11);
        Words.hold("I", "(a TOKEN's first byte; the end's)");
        fault(" \n stair odds  999;", 2, 15);
        fault("stair  oddsy 5;", 1, 7);
        fault("stair odds 5;\n band 10000;", 2, 20);
        fault("stair", 1, 5);
        fault("stair odds 5 \n", 1, 14);
        fault("stair odds 5" + " ".repeat(888), 1, 900);
        fault(" ".repeat(899) + "?", 1, 899);
        Words.hold("I", "of one place the least");
        fault("stair 101", 1, 6);
        fault("stair odds 5 101;", 1, 13);
        fault(HEAD + PART.repeat(4) + "walker part", 1, 104);
        fault(HEAD + WALKER.repeat(8) + "band walker", 1, 130);
        fault(HEAD + BAND.repeat(4) + "part band", 1, 46);
        fault(HEAD + PART.repeat(4) + "parts", 1, 97);
    }

    private static void faultKinds() {
        Words.hold("I", "1 a TOKEN that is none, or can't stand there (stair behind the first LINE, another word ahead of it).");
        fault("stair odds 5;Band 3;", 1, 13);
        fault("stair odds 5\t;", 1, 12);
        fault("stair odds 5;" + (char) 0, 1, 13);
        fault("stair odds 5;" + (char) 255, 1, 13);
        fault("stair odds five;", 1, 11);
        fault("stair odds 5; 7;", 1, 14);
        fault("stair odds 5;odds 5;", 1, 13);
        fault("stair odds 5;stair", 1, 13);
        fault("stair stair odds 5;", 1, 6);
        fault("band 1;stair odds 5;", 1, 0);
        fault("x", 1, 0);
        fault("5", 1, 0);
        Words.hold("I", "2 a number out of its bounds.");
        fault("stair odds 101;", 2, 11);
        fault(HEAD + "part steps 0 moves 31;", 2, 24);
        fault(HEAD + "part steps 1 moves 31;", 2, 32);
        Words.hold("I", "3 a 5th part, 9th walker, 5th band, at its word.");
        MovingStair x = new MovingStair();
        Check.due("as many as can be", Check.tell(x, HEAD + PART.repeat(4) + WALKER.repeat(8) + BAND.repeat(4) + SIDES.repeat(5)), 22);
        fault(HEAD + PART.repeat(5), 3, 97);
        fault(HEAD + PART.repeat(4) + WALKER + "part ?", 3, 111);
        fault(HEAD + WALKER.repeat(9), 3, 125);
        fault(HEAD + WALKER.repeat(8) + "walker pace 31;", 3, 125);
        fault(HEAD + BAND.repeat(5), 3, 41);
        fault(HEAD + BAND.repeat(4) + "band", 3, 41);
    }

    // ---- promise 57 ----

    private static void count() {
        Words.hold(57, "0 PARTS, 1 WALKERS, 2 BANDS, 3 odds, 4 steps of all PARTS, 5 1 if SIDES are told, else 0,"
                + " 6 acts, 7 LINES, 8 bytes of the TAPE, 9 SLOTS that have a row.");
        MovingStair x = new MovingStair();
        counts(x, 0, 0, 0, 0, 0, 0, 0, 0, 0, 0);
        Check.tell(x, "stair odds 100;" + "part steps 200 moves 0;".repeat(4) + WALKER.repeat(8) + BAND.repeat(4) + SIDES + SIDES);
        counts(x, 4, 8, 4, 100, 800, 1, 0, 19, 0, 0);
        for (int i = 0; i < 60; i++) {
            x.reverse();
        }
        x.reverse();
        x.feed(0, 0, 0, 0, 0);
        for (int slot = 0; slot < 4; slot++) {
            x.row(slot, 0, 0);
        }
        counts(x, 4, 8, 4, 100, 800, 1, 60, 19, 20, 4);
        Check.tell(x, HEAD);
        counts(x, 0, 0, 0, 0, 0, 0, 0, 1, 0, 4);
        x.stair();
        counts(x, 0, 0, 0, 0, 0, 0, 0, 0, 0, 4);

        Words.hold(57, "NONE for others.");
        for (int what : new int[] {-1, 10, 11, Integer.MAX_VALUE, Integer.MIN_VALUE}) {
            Check.due("count(" + what + ")", x.count(what), -1);
        }
    }

    private static void counts(MovingStair x, int... due) {
        for (int what = 0; what < due.length; what++) {
            Check.due("count(" + what + ")", x.count(what), due[what]);
        }
    }
}

import java.math.BigInteger;

/** Boundary cases of promises 1 to 5, and of a boat's text (Terms, I), which promises 4 and 5 tell of. */
final class EdgesOfText {
    private static final int NONE = EvenOars.NONE;
    private static final long NOTHING = EvenOars.NOTHING;
    private static final int LARGEST = Integer.MAX_VALUE;
    private static final int SMALLEST = Integer.MIN_VALUE;

    private EdgesOfText() {
    }

    static void run() {
        constants();
        newObjectIsEmpty();
        newObjectHasSeedOne();
        callsUpTo512();
        feedFull();
        feedBytes();
        endTooManyOrBelowZero();
        textEmptyAndFull();
        textRefusedAllStays();
        textTakenNothingToUndo();
        textSeedStays();
        textAgainAndAgain();
        textBehindFaults();
        faultAheadOfAnyAndOfTheLatest();
        seatsAndRowersTold();
        namesTold();
        numbersTold();
        eachFixWantNearTold();
        runsTold();
        paymentsTold();
        blanksAndEnds();
        oneTooMany();
        theLastOneCounts();
    }

    // The constants.
    private static void constants() {
        Check.edge(1, "NONE", EvenOars.NONE, -1);
        Check.edge(1, "NOTHING", EvenOars.NOTHING, -1000000000000000L);
    }

    // Promise 1: empty: no SEATS, no ROWERS, nothing on the tape, nothing refused.
    private static void newObjectIsEmpty() {
        EvenOars oars = new EvenOars();
        for (int what = 0; what <= 10; what++) {
            Check.edge(1, "empty: boat(" + what + ")", oars.boat(what), what == 2 ? NONE : 0);
        }
        Check.edge(1, "empty: no SEAT", oars.seat(0, 0), NONE);
        Check.edge(1, "empty: no ROWER", oars.rower(0, 0), NONE);
        Check.edge(1, "empty: no letter", oars.letter(0, 0), NONE);
        Check.edge(1, "empty: no tape", oars.end(1), false);
        Check.edge(1, "empty: its text is no boat but the empty one", oars.text(), 0);
    }

    // Promise 1: the seed is 1.
    private static void newObjectHasSeedOne() {
        String boat = "seat 1 arm 1;fix 1 right;rower a strength 50 tires 0;";
        EvenOars oars = Tapes.boat(boat);
        Check.edge(1, "the seed is 1", oars.row(200), headingAlone(1, 200));
        Check.edge(1, "the seed is not 0", oars.heading() == headingAlone(0, 200), false);
    }

    /** HEADING of one strong rower to the right, place 1 and arm 1, after so many strokes from a seed on. */
    private static long headingAlone(long seed, int strokes) {
        BigInteger x = BigInteger.valueOf(seed);
        long heading = 0;
        for (int k = 0; k < strokes; k++) {
            x = x.multiply(BigInteger.valueOf(1103515245)).add(BigInteger.valueOf(12345)).mod(BigInteger.ONE.shiftLeft(31));
            heading += 50 + x.divide(BigInteger.valueOf(64)).mod(BigInteger.valueOf(3)).intValue() - 1;
        }
        return heading;
    }

    // The 512th call after the object was made is still answered.
    private static void callsUpTo512() {
        EvenOars oars = new EvenOars();
        for (int call = 1; call < 512; call++) {
            oars.stroke(1);
        }
        Check.edge(18, "the 512th call", oars.stroke(1), 512);
    }

    // Promise 2: full: 1600 bytes are held, a byte more is refused (0) and leaves the tape.
    private static void feedFull() {
        EvenOars oars = new EvenOars();
        for (int k = 1; k <= 80; k++) {
            Check.edge(2, "not full yet", oars.feed(0x20202020, 0x20202020, 0x20202020, 0x20202020, 0x20202020), 20 * k);
        }
        Check.edge(2, "full: refused none so far", oars.status(0), 0);
        Check.edge(2, "full: 1620 bytes", oars.feed(0, 0, 0, 0, 0), NONE);
        Check.edge(2, "full: refused (0)", oars.status(0), 1);
        Check.edge(2, "full: the tape stays", oars.end(1600), true);
        Check.edge(2, "full: and no more", oars.end(1601), false);
        oars.end(1581);
        Check.edge(2, "one byte too many: 1601", oars.feed(0, 0, 0, 0, 0), NONE);
        Check.edge(2, "one byte too many: the tape stays", oars.end(1582), false);
        oars.end(1580);
        Check.edge(2, "just full: 1600", oars.feed(0x20202020, 0x20202020, 0x20202020, 0x20202020, 0x20202020), 1600);
        Check.edge(2, "just full: refused feed()s put nothing on the tape", oars.text(), 0);
        Check.edge(2, "empty again behind text()", oars.feed(0, 0, 0, 0, 0), 20);
    }

    // Promise 2: of each number the highest byte first; numbers below 0 have bytes above 127.
    private static void feedBytes() {
        EvenOars oars = new EvenOars();
        oars.feed(0x00018000, SMALLEST, LARGEST, 0xff000000, 0);
        oars.end(10);
        int[] bytes = {0, 1, 128, 0, 128, 0, 0, 0, 127, 255};
        int check = 107;
        for (int octet : bytes) {
            check = (5 * check + octet) % 251;
        }
        oars.feed(check << 24, -1, -1, -1, -1);
        oars.end(11);
        Check.edge(2, "the highest byte first, bytes above 127", oars.on(), true);
        Check.edge(2, "STROKE of such bytes", oars.boat(8), 1);
        Check.edge(2, "HEADING of such bytes", oars.heading(), 0x8000_8000_0000_7fffL);
    }

    // Promise 3: refused (0): not so many bytes, below 0; else the first n bytes alone.
    private static void endTooManyOrBelowZero() {
        EvenOars oars = new EvenOars();
        Check.edge(3, "empty: 0 bytes of none", oars.end(0), true);
        Check.edge(3, "too large: 1 byte of none", oars.end(1), false);
        Check.edge(3, "refused (0)", oars.status(0), 1);
        oars.feed(0x6e656172, 0x2031323b, 0, 0, 0);
        Check.edge(3, "too large: 21 of 20", oars.end(21), false);
        Check.edge(3, "too large: the largest", oars.end(LARGEST), false);
        Check.edge(3, "below 0: -1", oars.end(-1), false);
        Check.edge(3, "below 0: the smallest", oars.end(SMALLEST), false);
        Check.edge(3, "refused (0)", oars.status(0), 5);
        Check.edge(3, "as many as it has", oars.end(20), true);
        Check.edge(3, "cut", oars.end(8), true);
        Check.edge(3, "too large: what is cut is gone", oars.end(9), false);
        Check.edge(3, "the first ones stay", oars.text(), 1);
        Check.edge(3, "the first ones stay", oars.boat(5), 12);
        oars.feed(0, 0, 0, 0, 0);
        Check.edge(3, "down to 0 bytes", oars.end(0), true);
        Check.edge(3, "empty then", oars.feed(0, 0, 0, 0, 0), 20);
    }

    // Promise 4: empty, blanks alone, 70 STATEMENTS, a 71st; the tape goes in any case.
    private static void textEmptyAndFull() {
        EvenOars oars = new EvenOars();
        Check.edge(4, "empty", oars.text(), 0);
        Check.edge(4, "empty: no FAULT", oars.fault(0), 0);
        Check.edge(4, "blanks alone", Tapes.text(oars, " \n\n "), 0);
        Check.edge(4, "a full tape of blanks", Tapes.text(oars, " ".repeat(1600)), 0);
        Check.edge(4, "one", Tapes.text(oars, "near 7;"), 1);
        Check.edge(4, "empty takes the place of the boat", Tapes.text(oars, ""), 0);
        Check.edge(4, "empty takes the place of the boat", oars.boat(5), 0);
        Check.edge(4, "full: 70", Tapes.text(oars, "near 7;".repeat(70)), 70);
        Check.edge(4, "full: 70 and blanks behind", Tapes.text(oars, "near 7;".repeat(70) + " \n"), 70);
        Check.edge(4, "too many: 71", Tapes.text(oars, "near 7;".repeat(71)), NONE);
        Check.edge(4, "refused (1)", oars.status(1), 1);
        Check.edge(4, "the tape goes with a FAULT", oars.feed(0, 0, 0, 0, 0), 20);
        Tapes.text(oars, "near 7;");
        Check.edge(4, "the tape goes without one", oars.feed(0, 0, 0, 0, 0), 20);
        Check.edge(4, "1600 bytes", Tapes.text(oars, "near 8;" + " ".repeat(1586) + "near 9;"), 2);
        Check.edge(4, "1600 bytes", oars.boat(5), 9);
    }

    // Promise 4: refused (1) with a FAULT: all stays.
    private static void textRefusedAllStays() {
        EvenOars oars = Tapes.boat("seat 3 arm 4;seat 5 arm 6;rower abc strength 7 tires 1;rower b strength 2 tires 3;"
                + "each 1;fix 5 right;want 1 is -5;near 9;run lr power 1 swung 4;pay 3 on 2;pay 3 on 2;");
        oars.turn(0);
        oars.swap(0, 1);
        oars.row(15);
        oars.image();
        String before = Look.at(oars);
        Check.edge(4, "refused", Tapes.text(oars, "seat 1 arm 1;seat 2 arm 2;rower c strength 9 tires 0;each 4;fix 1 left;"
                + "want 1 is 3;want 2 is 5;near 1;run ll power 0 swung 1;pay 5 on 5;x"), NONE);
        Check.edge(4, "refused (1)", oars.status(1), 1);
        Check.edge(4, "refused: all stays", Look.at(oars).equals(before), true);
        Check.edge(4, "refused: ACTS can still be undone", oars.undo() && oars.undo() && oars.undo(), true);
        Check.edge(4, "refused: no more than those", oars.undo(), false);
    }

    // Promise 4: without a FAULT nothing can be undone, STROKE and HEADING are 0, all sit as at first.
    private static void textTakenNothingToUndo() {
        String boat = "seat 3 arm 4;seat 5 arm 6;rower abc strength 7 tires 1;rower b strength 2 tires 3;";
        EvenOars oars = Tapes.boat(boat);
        String before = Look.at(oars);
        oars.turn(0);
        oars.swap(0, 1);
        oars.row(15);
        Check.edge(4, "the same boat once more", Tapes.text(oars, boat), 4);
        Check.edge(4, "all as at first", Look.at(oars).equals(before), true);
        Check.edge(4, "nothing can be undone", oars.boat(9), 0);
        Check.edge(4, "nothing can be undone", oars.undo(), false);
    }

    // Promise 4: the seed stays, with a FAULT and without.
    private static void textSeedStays() {
        String boat = "seat 1 arm 1;fix 1 right;rower a strength 50 tires 0;";
        EvenOars oars = Tapes.boat(boat);
        oars.seed(99);
        Tapes.text(oars, boat);
        Tapes.text(oars, "?");
        Check.edge(4, "the seed stays", oars.row(100), headingAlone(99, 100));
        Tapes.text(oars, boat);
        Check.edge(4, "the seed stays as DRAWS left it", oars.row(50), headingAlone(99, 150) - headingAlone(99, 100));
    }

    // Promise 4: nothing of a former BOAT stays, however many there were: full, empty, small ones in turn.
    private static void textAgainAndAgain() {
        String full = EdgesOfBoat.greatest("right") + "each 3;near 4;want 0 is 5;want 1 is 6;want 2 is 7;want 3 is 8;"
                + "run rrrrrrrrrrrr power 1 swung 9;run llllllllllll power 2 swung 10;"
                + "pay 5 on 6;pay 5 on 6;" + "near 7;".repeat(20);
        String small = "seat 2 arm 3;seat 4 arm 5;rower xy strength 6 tires 7;run xr power 0 swung 0;pay 5 on 6;";
        String other = "seat 2 arm 3;rower xyz strength 2 tires 1;rower yz strength 2 tires 1;run r power 1 swung 24;near 5;";
        String fixed = "seat 2 arm 3;seat 4 arm 5;fix 2 left;fix 4 left;rower a strength 1 tires 0;rower b strength 2 tires 0;"
                + "run lr power 0 swung 7;";
        String behind = "seat 4 arm 3;run l power 0 swung -3;seat 2 arm 5;rower b strength 1 tires 0;rower a strength 2 tires 0;";
        String[] boats = {full, "", small, other, full, small, "", "", other, small, full, full, other, "",
            fixed, other, small, behind, fixed, full, behind, "", fixed, behind, behind, other, fixed};
        for (int from = 0; from + 5 <= boats.length; from++) {
            EvenOars oars = new EvenOars();
            for (int k = 0; k < 4; k++) {
                Tapes.text(oars, boats[from + k]);
                oars.strengths(0, 0);
                oars.stroke(3);
            }
            Check.edge(4, "the fifth BOAT", Tapes.text(oars, boats[from + 4]) >= 0, true);
            Check.edge(4, "nothing of the former four", Look.at(oars).equals(Look.at(Tapes.boat(boats[from + 4]))), true);
        }
    }

    // Promise 4: blanks ahead of a text as long as what the former one had before its FAULT.
    private static void textBehindFaults() {
        EvenOars oars = new EvenOars();
        Tapes.text(oars, "near");
        Check.edge(4, "a word where the former text ended", Tapes.text(oars, "    near 1;"), 1);
        Tapes.text(oars, "near 1");
        Check.edge(4, "a word where the former text ended in a number", Tapes.text(oars, "      near 1;"), 1);
        Tapes.ask(oars, "first");
        Check.edge(37, "a word where the former question ended", Tapes.ask(oars, "     often all"), 101);
        Tapes.text(oars, "near");
        Check.edge(37, "a word where a text ended", Tapes.ask(oars, "    often all"), 101);
    }

    // Promise 5: ahead of any; of the latest text() or ask(); other numbers.
    private static void faultAheadOfAnyAndOfTheLatest() {
        EvenOars oars = new EvenOars();
        faultIs(oars, "ahead of any", 0, NONE);
        Tapes.text(oars, "near 1;?");
        faultIs(oars, "of text()", 1, 7);
        Tapes.on(oars, new int[] {1, 2, 3});
        faultIs(oars, "on() tells none", 1, 7);
        Tapes.ask(oars, "often all");
        faultIs(oars, "of ask(), without", 0, NONE);
        Tapes.ask(oars, "first [[[[[[[");
        faultIs(oars, "of ask()", 4, 12);
        Tapes.text(oars, "near 1;");
        faultIs(oars, "of text(), without", 0, NONE);
        for (int what : new int[] {-1, 2, LARGEST, SMALLEST}) {
            Check.edge(5, "another what: " + what, oars.fault(what), NONE);
        }
        Tapes.text(oars, "?");
        for (int what : new int[] {-1, 2, LARGEST, SMALLEST}) {
            Check.edge(5, "another what with a FAULT: " + what, oars.fault(what), NONE);
        }
    }

    private static void faultIs(EvenOars oars, String which, int kind, int place) {
        Check.edge(5, which, oars.fault(0), kind);
        Check.edge(5, which + ", its place", oars.fault(1), place);
    }

    /** A text whose FAULT is of a kind and at a place; kind 0 is none. */
    private static void told(String which, String text, int kind, int place) {
        EvenOars oars = new EvenOars();
        int statements = Tapes.text(oars, text);
        Check.edge(4, which + ": " + text, statements == NONE, kind != 0);
        Check.edge(4, which + ", refused (1): " + text, oars.status(1), kind != 0 ? 1 : 0);
        Check.edge(5, which + ": " + text, oars.fault(0), kind);
        Check.edge(5, which + ", its place: " + text, oars.fault(1), kind == 0 ? NONE : place);
    }

    /** A text up to a number, the numbers that just can be there, and the two next to these. */
    private static void range(String which, String ahead, int least, int most, String behind) {
        told(which + " " + least, ahead + least + behind, 0, NONE);
        told(which + " " + most, ahead + most + behind, 0, NONE);
        if (least > 0) {
            told(which + " too small", ahead + (least - 1) + behind, 2, ahead.length());
        }
        told(which + " too large", ahead + (most + 1) + behind, 2, ahead.length());
        told(which + " far too large", ahead + "99999" + behind, 2, ahead.length());
        told(which + " below 0", ahead + "-1" + behind, 1, ahead.length());
        // The first FAULT along the text, whatever stands behind it.
        told(which + " too large, and the text ends", ahead + (most + 1), 2, ahead.length());
        told(which + " too large, and no such text goes on", ahead + (most + 1) + "?", 2, ahead.length());
        told(which + " too large, and a blank lacks behind it", ahead + (most + 1) + "z", 2, ahead.length());
        told(which + " too large, and more behind it", ahead + (most + 1) + behind + "pay 0 on 0;?", 2, ahead.length());
        told(which + ", and the text ends", ahead + most, 1, ahead.length() + String.valueOf(most).length());
    }

    // Terms I: places and arms 1 .. 99, unlike places, strengths 1 .. 99, tires 0 .. 9.
    private static void seatsAndRowersTold() {
        range("a place", "seat ", 1, 99, " arm 1;");
        range("an arm", "seat 1 arm ", 1, 99, ";");
        range("a strength", "rower a strength ", 1, 99, " tires 0;");
        range("tires", "rower a strength 1 tires ", 0, 9, ";");
        told("a place that is there already", "seat 7 arm 1;seat 7 arm 2;", 2, 18);
        told("a place that is there already, with zeros", "seat 7 arm 1;seat 007 arm 2;", 2, 18);
        told("unlike places next to each other", "seat 7 arm 1;seat 8 arm 1;seat 6 arm 1;", 0, NONE);
    }

    // Terms I: NAMES of 1 to 6 letters, unlike ones, no OWN WORD.
    private static void namesTold() {
        told("a NAME of 1 letter", "rower a strength 1 tires 0;", 0, NONE);
        told("a NAME of 1 letter, the last one", "rower z strength 1 tires 0;", 0, NONE);
        told("a NAME of 6 letters", "rower abcxyz strength 1 tires 0;", 0, NONE);
        told("a 7th letter at itself", "rower abcxyzz strength 1 tires 0;", 1, 12);
        told("an 8th letter, too", "rower abcxyzzz strength 1 tires 0;", 1, 12);
        told("no NAME", "rower ; strength 1 tires 0;", 1, 6);
        told("no letter", "rower 1a strength 1 tires 0;", 1, 6);
        told("the sign ahead of a", "rower ` strength 1 tires 0;", 1, 6);
        told("the sign behind z", "rower { strength 1 tires 0;", 1, 6);
        told("a great letter", "rower Ann strength 1 tires 0;", 1, 6);
        told("a NAME that is there already", "rower ab strength 1 tires 0;rower ab strength 2 tires 0;", 3, 34);
        told("the first NAME of three once more", "rower ab strength 1 tires 0;rower abc strength 2 tires 0;"
                + "rower b strength 2 tires 0;rower ab", 3, 90);
        told("a NAME that is there already, and a digit behind it", "rower ab strength 1 tires 0;rower ab1", 3, 34);
        told("a NAME of 6 letters that is there already",
                "rower abcdef strength 1 tires 0;rower abcdef strength 2 tires 0;", 3, 38);
        told("the beginning of a NAME that is there", "rower abc strength 1 tires 0;rower ab strength 2 tires 0;", 0, NONE);
        told("a NAME that is there and one letter more",
                "rower ab strength 1 tires 0;rower abc strength 2 tires 0;", 0, NONE);
        told("a NAME of 6 letters and a 7th", "rower abcdef strength 1 tires 0;rower abcdefg strength 2 tires 0;", 1, 44);
        String[] own = {"seat", "arm", "rower", "strength", "tires", "each", "fix", "left", "right", "want", "is", "near",
            "run", "power", "swung", "pay", "on"};
        for (String word : own) {
            told("an OWN WORD", "rower " + word + " strength 1 tires 0;", 1, 6);
            String shorter = word.substring(1);
            told("no OWN WORD any more", "rower " + (shorter.length() > 6 ? "trengt" : shorter) + " strength 1 tires 0;", 0, NONE);
            if (word.length() < 6) {
                told("no OWN WORD any more", "rower " + word + "s strength 1 tires 0;", 0, NONE);
            }
        }
    }

    // Terms I: NUMBERS of 1 to 5 digits, a 6th digit at itself.
    private static void numbersTold() {
        told("a NUMBER of 5 digits", "near 00042;", 0, NONE);
        told("a 6th digit", "near 000042;", 1, 10);
        told("a 6th digit of what can't be anyway", "near 999999;", 1, 10);
        told("a 7th digit, too", "near 0000042;", 1, 10);
        told("a 6th digit behind a sign", "want 0 is -000001;", 1, 16);
        told("a 6th digit behind a sign and blanks", "want 0 is - \n000001;", 1, 18);
        told("a 6th digit of a place", "seat 000001 arm 1;", 1, 10);
        told("a 6th digit of a fixed place", "seat 1 arm 1;fix 000001 left;", 1, 22);
        told("no NUMBER", "near ;", 1, 5);
        told("no NUMBER but a word", "near x;", 1, 5);
        told("the sign ahead of 0", "near /;", 1, 5);
        told("the sign behind 9", "near :;", 1, 5);
    }

    // Terms I: each 0 .. 12, fix a SEAT's place, want 0 .. 3 and -9999 .. 9999, near 0 .. 9999.
    private static void eachFixWantNearTold() {
        range("each", "each ", 0, 12, ";");
        range("a POWER that is wanted", "want ", 0, 3, " is 1;");
        range("near", "near ", 0, 9999, ";");
        told("what is wanted, the least", "want 1 is -9999;", 0, NONE);
        told("what is wanted, the most", "want 1 is 9999;", 0, NONE);
        told("what is wanted, 0 below", "want 1 is -0;", 0, NONE);
        told("what is wanted, too small: at its sign", "want 1 is -10000;", 2, 10);
        told("what is wanted, too small: at its sign, blanks behind it", "want 1 is -\n 10000;", 2, 10);
        told("what is wanted, too large", "want 1 is 10000;", 2, 10);
        told("what is wanted, too large, and the text ends", "want 1 is 10000", 2, 10);
        told("what is wanted, too small, and no such text goes on", "want 1 is - 10000?", 2, 10);
        told("a sign alone", "want 1 is -;", 1, 11);
        told("two signs", "want 1 is --1;", 1, 11);
        told("a sign that is none", "want 1 is +1;", 1, 10);
        told("fix of no place", "fix 1 left;", 2, 4);
        told("fix of a place there is not", "seat 2 arm 1;fix 1 left;", 2, 17);
        told("fix of a place there is not, next to it", "seat 2 arm 1;fix 3 left;", 2, 17);
        told("fix of 0", "seat 2 arm 1;fix 0 left;", 2, 17);
        told("fix of a place beyond all", "seat 2 arm 1;fix 99999 left;", 2, 17);
        told("fix of a place that comes behind", "fix 2 left;seat 2 arm 1;", 2, 4);
        told("fix of a place there is not, and the text ends", "seat 2 arm 1;fix 1", 2, 17);
        told("fix of a place by zeros", "seat 2 arm 1;fix 00002 right;", 0, NONE);
        told("fix to no side", "seat 2 arm 1;fix 2;", 1, 18);
    }

    // Terms I: SIDES as many letters as SEATS so far, one at least; powers 0 .. 3, swung -99999 .. 99999.
    private static void runsTold() {
        String two = "seat 1 arm 1;seat 2 arm 1;";
        range("a RUN's POWER", two + "run lr power ", 0, 3, " swung 1;");
        told("swung, the least", two + "run lr power 0 swung -99999;", 0, NONE);
        told("swung, the most", two + "run lr power 0 swung 99999;", 0, NONE);
        told("swung, a 6th digit", two + "run lr power 0 swung 100000;", 1, 52);
        told("swung, a 6th digit below 0", two + "run lr power 0 swung -100000;", 1, 53);
        told("SIDES too short", two + "run l power 0 swung 0;", 1, 30);
        told("SIDES too long", two + "run lrx power 0 swung 0;", 1, 30);
        told("SIDES of other letters", two + "run ly power 0 swung 0;", 1, 30);
        told("SIDES of other letters at first", two + "run al power 0 swung 0;", 1, 30);
        told("SIDES in two pieces", two + "run l r power 0 swung 0;", 1, 30);
        told("no SIDES", two + "run power 0 swung 0;", 1, 30);
        told("no word for SIDES", two + "run 1 power 0 swung 0;", 1, 30);
        told("SIDES of SEATS so far alone", "seat 1 arm 1;run l power 0 swung 0;seat 2 arm 1;run rx power 0 swung 0;", 0, NONE);
        told("SIDES of a SEAT that comes behind", "seat 1 arm 1;run lr power 0 swung 0;seat 2 arm 1;", 1, 17);
        told("SIDES without SEATS", "run l power 0 swung 0;", 1, 4);
        told("no SIDES without SEATS", "run power 0 swung 0;", 1, 4);
    }

    // Terms I: pay 1 .. 999 on 0 .. 999.
    private static void paymentsTold() {
        range("a PAYMENT", "pay ", 1, 999, " on 0;");
        range("its day", "pay 1 on ", 0, 999, ";");
    }

    // Terms I: blanks (10, 32), needed between words and numbers alone; a text that ends too soon.
    private static void blanksAndEnds() {
        told("no blanks where none is needed", "want 1 is-5;each 3;near 4;", 0, NONE);
        told("blanks of all lines", "\n\nwant\n1\nis\n-\n5\n;\n", 0, NONE);
        for (int sign : new int[] {0, 9, 11, 12, 13, 31, 33, 127, 128, 160, 255}) {
            told("no blank: " + sign, "near" + (char) sign + "1;", 1, 4);
        }
        told("a word and a number side by side", "near1;", 1, 4);
        told("a number and a word side by side", "pay 1on 2;", 1, 5);
        told("two words side by side", "seat 1 arm 1;runl power 0 swung 0;", 1, 13);
        String whole = "seat 1 arm 2;";
        for (int end = 5; end < whole.length(); end++) {
            boolean arm = end == 8 || end == 9;
            told("ends too soon", whole.substring(0, end), 1, arm ? 7 : end);
        }
        told("a word that ends too soon, at its first byte", "sea", 1, 0);
        told("ends too soon behind blanks", "near 1 \n", 1, 8);
        told("no STATEMENT", ";", 1, 0);
        told("a STATEMENT's word unknown", "oar 1;", 1, 0);
        told("an OWN WORD that begins none", "near 1;arm 1;", 1, 7);
        told("no ; behind it", "near 1 near 2;", 1, 7);
    }

    // Terms I: 12 SEATS, 12 ROWERS, 8 RUNS, 12 PAYMENTS, 70 STATEMENTS; one too many at its first byte.
    private static void oneTooMany() {
        StringBuilder seats = new StringBuilder();
        StringBuilder rowers = new StringBuilder();
        for (int k = 0; k < 12; k++) {
            seats.append("seat ").append(99 - k).append(" arm 99;");
            rowers.append("rower ").append((char) ('a' + k)).append(" strength 99 tires 9;");
        }
        String runs = "seat 1 arm 1;" + "run l power 0 swung 0;".repeat(8);
        told("full: 12 SEATS", seats.toString(), 0, NONE);
        told("a 13th SEAT", seats + " seat 1 arm 1;", 5, seats.length() + 1);
        told("a 13th SEAT, whatever stands behind it", seats + "seat?", 5, seats.length());
        told("no 13th SEAT but another word", seats + "seats", 1, seats.length());
        told("no 13th SEAT but a NUMBER", seats + " 5 arm 1;", 1, seats.length() + 1);
        told("no 13th SEAT but a sign", seats + ";", 1, seats.length());
        told("no 13th SEAT but another STATEMENT", seats + "fix 99 left;near 1;", 0, NONE);
        told("a 13th ROWER ahead of a NAME that is there", rowers + "rower a", 5, rowers.length());
        told("a 9th RUN, whatever stands behind it", runs + "run", 5, runs.length());
        told("a 13th PAYMENT, whatever stands behind it", "pay 1 on 0;".repeat(12) + "pay 0", 5, 132);
        told("full: 12 ROWERS", rowers.toString(), 0, NONE);
        told("a 13th ROWER", rowers + "rower z strength 1 tires 0;", 5, rowers.length());
        told("full: 8 RUNS", runs, 0, NONE);
        told("a 9th RUN", runs + "run l power 0 swung 0;", 5, runs.length());
        told("full: 12 PAYMENTS", "pay 1 on 0;".repeat(12), 0, NONE);
        told("a 13th PAYMENT", "pay 1 on 0;".repeat(13), 5, 132);
        told("full: 70 STATEMENTS", "near 1;".repeat(70), 0, NONE);
        told("a 71st STATEMENT", "near 1;".repeat(70) + "\nnear 1;", 5, 491);
        told("a 71st STATEMENT, whatever stands there", "near 1;".repeat(70) + "\u00ff", 5, 490);
        told("a 71st STATEMENT, whatever stands there", "near 1;".repeat(70) + ";", 5, 490);
        told("a 70th STATEMENT that is none", "near 1;".repeat(69) + ";", 1, 483);
        EvenOars oars = Tapes.boat(seats + rowers.toString());
        Check.edge(6, "full: 12 SEATS", oars.boat(0), 12);
        Check.edge(6, "full: 12 ROWERS", oars.boat(1), 12);
        Check.edge(6, "full: 8 RUNS", Tapes.boat(runs).boat(6), 8);
        Check.edge(6, "full: 12 PAYMENTS", Tapes.boat("pay 1 on 0;".repeat(12)).boat(7), 12);
    }

    // Terms I: the last one counts, of each, near, a SEAT that is fixed, a POWER that is wanted.
    private static void theLastOneCounts() {
        EvenOars oars = Tapes.boat("seat 4 arm 1;seat 2 arm 1;each 2;each 1;near 5;near 3;fix 4 right;fix 2 left;fix 4 left;"
                + "fix 2 right;want 2 is 7;want 2 is 0;");
        Check.edge(4, "the last one counts: each", oars.boat(2), 1);
        Check.edge(4, "the last one counts: near", oars.boat(5), 3);
        Check.edge(4, "the last one counts: fixed to the left", oars.seat(0, 3), 0);
        Check.edge(4, "the last one counts: fixed to the right", oars.seat(1, 3), 1);
        Check.edge(4, "the last one counts: fixed SEATS", oars.boat(3), 2);
        Check.edge(4, "the last one counts: what is wanted", oars.want(2), 0);
        Check.edge(4, "the last one counts: WANTS", oars.boat(4), 1);
        Check.edge(4, "without each any", Tapes.boat("near 1;").boat(2), NONE);
        Check.edge(4, "without near 0", Tapes.boat("each 1;").boat(5), 0);
        Check.edge(4, "without want none", Tapes.boat("each 1;").want(2), NOTHING);
    }
}

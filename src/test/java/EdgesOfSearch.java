/** Boundary cases of promises 26 to 31: the nearest, and races. */
final class EdgesOfSearch {
    private static final int NONE = EvenOars.NONE;
    private static final int LARGEST = Integer.MAX_VALUE;
    private static final int SMALLEST = Integer.MIN_VALUE;
    private static final String TWO = "seat 3 arm 2;seat 1 arm 1;rower a strength 5 tires 1;rower b strength 20 tires 2;";

    private EdgesOfSearch() {
    }

    static void run() {
        nearestWithoutLawful();
        nearestOfOthers();
        nearestEmptyAndFull();
        nearestOfLikeOnes();
        seatedOfOthers();
        seatedNone();
        seatedNoneToFive();
        seatedOfLikeOnes();
        changesNoneToThree();
        changesOfBothKinds();
        changesNotEnough();
        changesOfFixedAndEmptySeats();
        raceOfOthers();
        raceFirstAndLastStroke();
        racesBeyondHundred();
        raceAtTheEnd();
        stillestOfOthers();
        stillestWithoutLawful();
        stillestFirstAndLastStroke();
        underOfOthers();
        underFewSeats();
        underFirstAndLastStroke();
        underOfLikeOnes();
    }

    /** A boat of alike seats (arm 1, places from 1 on) with rowers of these strengths, who do not tire. */
    private static String alike(int seats, int... strengths) {
        StringBuilder text = new StringBuilder();
        for (int s = 1; s <= seats; s++) {
            text.append("seat ").append(s).append(" arm 1;");
        }
        for (int r = 0; r < strengths.length; r++) {
            text.append("rower ").append((char) ('a' + r)).append(" strength ").append(strengths[r]).append(" tires 0;");
        }
        return text.toString();
    }

    // Promise 26: NONE without LAWFUL sides.
    private static void nearestWithoutLawful() {
        String[] never = {"each 1;", "seat 1 arm 1;each 2;", "seat 1 arm 1;seat 2 arm 1;fix 1 left;fix 2 left;each 1;",
            "seat 1 arm 1;seat 2 arm 1;fix 1 right;each 2;", EdgesOfBoat.greatest("left") + "each 11;"};
        for (String text : never) {
            for (int what = 0; what <= 2; what++) {
                Check.edge(26, "without LAWFUL sides: " + what, Tapes.boat(text).nearest(what), NONE);
            }
        }
        EvenOars oars = Tapes.boat("seat 1 arm 1;each 0;");
        Check.edge(26, "sides now are not LAWFUL, but others", oars.nearest(1), 1);
        Check.edge(26, "sides now are not LAWFUL, but others", oars.nearest(2), 1);
    }

    // Promise 26: NONE for others.
    private static void nearestOfOthers() {
        EvenOars oars = Tapes.boat(TWO);
        for (int what : new int[] {-1, 3, LARGEST, SMALLEST}) {
            Check.edge(26, "others: " + what, oars.nearest(what), NONE);
        }
    }

    // Promise 26: no SEATS, no WANTS, 12 SEATS; none is GOOD.
    private static void nearestEmptyAndFull() {
        EvenOars empty = Tapes.boat("want 0 is -7;want 2 is 5;near 6;");
        Check.edge(26, "no SEATS: OFF", empty.nearest(0), 12);
        Check.edge(26, "no SEATS: bits", empty.nearest(1), 0);
        Check.edge(26, "no SEATS: none is GOOD", empty.nearest(2), 0);
        Tapes.text(empty, "want 0 is -7;want 2 is 5;near 7;");
        Check.edge(26, "no SEATS: just GOOD", empty.nearest(2), 1);
        StringBuilder twelve = new StringBuilder(alike(12));
        Check.edge(26, "12 SEATS, no WANTS: OFF", Tapes.boat(twelve.toString()).nearest(0), 0);
        Check.edge(26, "12 SEATS, no WANTS: the least bits", Tapes.boat(twelve.toString()).nearest(1), 0);
        Check.edge(26, "12 SEATS, no WANTS: all are GOOD", Tapes.boat(twelve.toString()).nearest(2), 4096);
        Check.edge(26, "12 SEATS, each 0", Tapes.boat(twelve + "each 0;").nearest(1), 4095);
        Check.edge(26, "12 SEATS, each 6", Tapes.boat(twelve + "each 6;").nearest(2), 924);
        Check.edge(26, "12 SEATS, each 12", Tapes.boat(twelve + "each 12;").nearest(2), 1);
        EvenOars great = Tapes.boat(EdgesOfBoat.greatest("right") + "want 3 is -9999;");
        Check.edge(26, "more than 32 bits can hold", great.nearest(0), EdgesOfBoat.greatestSwing(3) + 9999);
        Check.edge(26, "all fixed", great.nearest(1), 4095);
    }

    // Promise 26: the least bits of like ones; just GOOD; OFF now, not at first.
    private static void nearestOfLikeOnes() {
        EvenOars oars = Tapes.boat(alike(3, 5, 5, 5) + "want 0 is 0;near 5;");
        Check.edge(26, "like ones: OFF", oars.nearest(0), 5);
        Check.edge(26, "like ones: the least bits", oars.nearest(1), 1);
        Check.edge(26, "just GOOD", oars.nearest(2), 6);
        Check.edge(26, "just not GOOD", Tapes.boat(alike(3, 5, 5, 5) + "want 0 is 0;near 4;").nearest(2), 0);
        EvenOars now = Tapes.boat("seat 1 arm 1;seat 2 arm 1;rower a strength 5 tires 5;rower b strength 3 tires 0;want 0 is 2;");
        Check.edge(26, "at STROKE 0", now.nearest(0), 0);
        now.stroke(9);
        Check.edge(26, "at STROKE 9", now.nearest(1), 1);
        now.stroke(1);
        Check.edge(26, "at STROKE 10", now.nearest(0), 1);
        Check.edge(26, "at STROKE 10: without STRENGTH either side, the least bits", now.nearest(1), 2);
    }

    // Promise 27: NONE for others than NONE, a SEAT, 20.
    private static void seatedOfOthers() {
        EvenOars oars = Tapes.boat(alike(2, 4, 7));
        for (int k : new int[] {-2, 2, 3, 5, 12, 19, 21, LARGEST, SMALLEST}) {
            Check.edge(27, "others: " + k, oars.seated(k), NONE);
        }
        Check.edge(27, "OFF", oars.seated(NONE), 0);
        Check.edge(27, "the first SEAT", oars.seated(0), 0);
        Check.edge(27, "the last SEAT", oars.seated(1), 1);
        Check.edge(27, "bits", oars.seated(20), 0);
    }

    // Promise 27: NONE without LAWFUL sides, with unlike numbers, more than 5.
    private static void seatedNone() {
        String[] never = {"each 1;", alike(2, 4, 7) + "each 3;", alike(2, 4), alike(2, 4, 7, 1), alike(1), alike(0, 5),
            alike(6, 1, 2, 3, 4, 5, 6), alike(5, 1, 2, 3, 4, 5, 6), alike(6, 1, 2, 3, 4, 5),
            alike(12, 1, 1, 1, 1, 1, 1, 1, 1, 1, 1, 1, 1)};
        for (String text : never) {
            EvenOars oars = Tapes.boat(text);
            for (int k : new int[] {NONE, 0, 1, 4, 5, 20}) {
                Check.edge(27, "none: " + text + " " + k, oars.seated(k), NONE);
            }
        }
    }

    // Promise 27: none, one, five SEATS and ROWERS.
    private static void seatedNoneToFive() {
        EvenOars empty = Tapes.boat("want 0 is -7;");
        Check.edge(27, "empty: OFF", empty.seated(NONE), 7);
        Check.edge(27, "empty: bits", empty.seated(20), 0);
        Check.edge(27, "empty: no SEAT 0", empty.seated(0), NONE);
        EvenOars one = Tapes.boat(alike(1, 5) + "want 0 is 6;");
        Check.edge(27, "one: OFF", one.seated(NONE), 1);
        Check.edge(27, "one: ROWER", one.seated(0), 0);
        Check.edge(27, "one: bits", one.seated(20), 1);
        // 16, 8, 4, 2, 1 on places 1 .. 5, all to the right: the last of the orders.
        EvenOars five = Tapes.boat(alike(5, 1, 2, 4, 8, 16) + "each 0;want 1 is 57;");
        Check.edge(27, "five: OFF", five.seated(NONE), 0);
        for (int s = 0; s < 5; s++) {
            Check.edge(27, "five: ROWER in SEAT " + s, five.seated(s), 4 - s);
        }
        Check.edge(27, "five: bits", five.seated(20), 31);
        Check.edge(27, "five: no SEAT 5", five.seated(5), NONE);
    }

    // Promise 27 (Terms III): of like ones the first by ROWERS in SEATS, then the least bits; OFF now.
    private static void seatedOfLikeOnes() {
        EvenOars oars = Tapes.boat(alike(3, 5, 5, 5) + "want 0 is 0;");
        oars.swap(0, 2);
        oars.swap(1, 2);
        for (int s = 0; s < 3; s++) {
            Check.edge(27, "like ones: the first order, however they sit", oars.seated(s), s);
        }
        Check.edge(27, "like ones: the least bits", oars.seated(20), 1);
        EvenOars now = Tapes.boat("seat 1 arm 1;seat 2 arm 1;rower a strength 6 tires 2;rower b strength 2 tires 0;"
                + "each 0;want 1 is 8;");
        Check.edge(27, "at STROKE 0: 2 + 2 times 6 is 14, 6 + 2 times 2 is 10", now.seated(0), 0);
        now.stroke(9);
        Check.edge(27, "at STROKE 9", now.seated(NONE), 2);
        now.stroke(1);
        Check.edge(27, "at STROKE 10: 4 and 2", now.seated(NONE), 0);
        now.stroke(10);
        Check.edge(27, "at STROKE 20: 2 and 2, the first order", now.seated(0), 0);
    }

    // Promise 28: 0 when it is GOOD and LAWFUL now, 1, 2, 3.
    private static void changesNoneToThree() {
        Check.edge(28, "a new object", new EvenOars().changes(), 0);
        String boat = alike(8, 1, 2, 4, 8);
        String[] due = {"", "each 3;", "each 2;", "each 1;"};
        for (int k = 0; k < 4; k++) {
            Check.edge(28, k + " turns", Tapes.boat(boat + due[k]).changes(), k);
        }
        // All turns are fixed: STRENGTHS 1, 2, 4, 8, 16, 32 of 6 SEATS, POWER 1 is -321 at first.
        String swaps = alike(6, 1, 2, 4, 8, 16, 32) + "fix 1 left;fix 2 left;fix 3 left;fix 4 left;fix 5 left;fix 6 left;";
        Check.edge(28, "0 swaps", Tapes.boat(swaps + "want 1 is -321;").changes(), 0);
        Check.edge(28, "1 swap", Tapes.boat(swaps + "want 1 is -166;").changes(), 1);
        Check.edge(28, "2 swaps", Tapes.boat(swaps + "want 1 is -124;").changes(), 2);
        Check.edge(28, "3 swaps", Tapes.boat(swaps + "want 1 is -120;").changes(), 3);
        Check.edge(28, "GOOD, but not LAWFUL", Tapes.boat(boat + "want 0 is 5;each 3;").changes(), 1);
        Check.edge(28, "LAWFUL, but not GOOD", Tapes.boat(boat + "want 0 is 7;each 3;").changes(), 1);
    }

    // Promise 28: each way to part 2, 3 and 4 ACTS into turns and swaps; LAWFUL behind them, whatever it is now.
    private static void changesOfBothKinds() {
        String boat = alike(8, 1, 2, 4, 8);
        String[] wants = {"want 0 is -3;want 1 is -17;each 4;", "want 0 is 3;want 1 is 24;each 5;", "want 0 is -5;want 1 is -8;each 4;",
            "want 0 is 11;want 1 is 41;each 3;", "want 0 is 9;want 1 is 71;want 2 is 539;each 4;",
            "want 0 is -13;want 1 is -52;want 2 is -226;each 5;", "want 0 is 5;want 1 is 11;want 2 is -21;each 4;",
            "want 0 is -5;want 1 is -23;want 2 is -99;each 4;", "want 0 is -5;want 1 is 5;want 2 is 177;each 4;"};
        String[] kinds = {"2 turns", "a turn and a swap", "2 swaps", "3 turns", "2 turns and a swap", "a turn and 2 swaps",
            "3 swaps", "4 turns", "2 turns and 2 swaps"};
        int[] due = {2, 2, 2, 3, 3, 3, 3, NONE, NONE};
        for (int k = 0; k < wants.length; k++) {
            Check.edge(28, kinds[k], Tapes.boat(boat + wants[k]).changes(), due[k]);
        }
        // Two turns of a SEAT without a ROWER and another one are one but for the number to the left.
        Check.edge(28, "any may row to the left: one turn", Tapes.boat(boat + "want 0 is 7;want 1 is 25;").changes(), 1);
        Check.edge(28, "4 are to: two turns", Tapes.boat(boat + "want 0 is 7;want 1 is 25;each 4;").changes(), 2);
    }

    // Promise 28: NONE when 3 are not enough.
    private static void changesNotEnough() {
        Check.edge(28, "4 turns", Tapes.boat(alike(8, 1, 2, 4, 8) + "each 0;").changes(), NONE);
        Check.edge(28, "no sides are LAWFUL", Tapes.boat("each 1;").changes(), NONE);
        Check.edge(28, "none is GOOD", Tapes.boat("want 0 is 1;").changes(), NONE);
        Check.edge(28, "just none is near", Tapes.boat(alike(2, 5, 5) + "near 4;want 0 is 5;").changes(), NONE);
        Check.edge(28, "one is just near", Tapes.boat(alike(2, 5, 5) + "near 5;want 0 is 15;").changes(), 1);
        // Each ROWER one place on takes one swap less than they are: five of them, then four of the five.
        String five = alike(5, 1, 2, 4, 8, 16) + "fix 1 right;fix 2 right;fix 3 right;fix 4 right;fix 5 right;";
        Check.edge(28, "4 swaps", Tapes.boat(five + "want 1 is 103;want 2 is 371;want 3 is 1399;").changes(), NONE);
        Check.edge(28, "3 swaps", Tapes.boat(five + "want 1 is 118;want 2 is 506;want 3 is 2314;").changes(), 3);
        EvenOars oars = Tapes.boat(alike(2, 5, 5) + "want 0 is 1;");
        oars.turn(0);
        Check.edge(28, "no ACT is done", oars.changes() == NONE && oars.boat(9) == 1 && oars.seat(0, 3) == 1, true);
    }

    // Promise 28: fixed SEATS are not turned, but their ROWERS change; a SEAT without a ROWER.
    private static void changesOfFixedAndEmptySeats() {
        Check.edge(28, "a fixed SEAT is not turned", Tapes.boat(alike(1, 5) + "fix 1 left;want 0 is 5;").changes(), NONE);
        Check.edge(28, "a free one is", Tapes.boat(alike(1, 5) + "want 0 is 5;").changes(), 1);
        Check.edge(28, "ROWERS of fixed SEATS change", Tapes.boat(alike(2, 5, 7) + "fix 1 left;fix 2 right;want 0 is -2;").changes(), 1);
        Check.edge(28, "one and none change", Tapes.boat(alike(2, 5) + "fix 1 left;fix 2 right;want 0 is 5;").changes(), 1);
        Check.edge(28, "a swap alone, as each is told", Tapes.boat(alike(2, 5) + "each 1;want 0 is 5;").changes(), 1);
        EvenOars now = Tapes.boat("seat 1 arm 1;rower a strength 5 tires 1;want 0 is -4;");
        Check.edge(28, "now, at STROKE 0", now.changes(), NONE);
        now.stroke(10);
        Check.edge(28, "now, at STROKE 10", now.changes(), 0);
    }

    // Promise 29: NONE for others than 1 .. 300.
    private static void raceOfOthers() {
        EvenOars oars = Tapes.boat(TWO);
        for (int n : new int[] {0, -1, 301, LARGEST, SMALLEST}) {
            Check.edge(29, "others: " + n, oars.race(n), NONE);
        }
        Check.edge(29, "the least", oars.race(1), 10);
        Check.edge(29, "the most", oars.race(300), 10);
        Check.edge(29, "no SEATS", new EvenOars().race(300), 0);
        Check.edge(29, "the greatest", Tapes.boat(EdgesOfBoat.greatest("left")).race(300), EdgesOfBoat.greatestSwing(1));
    }

    // Promise 29 (Terms III): from the next STROKE on, n of them.
    private static void raceFirstAndLastStroke() {
        EvenOars oars = Tapes.boat("seat 1 arm 1;rower a strength 7 tires 1;seat 2 arm 1;fix 2 right;rower b strength 7 tires 0;");
        Check.edge(29, "the last STROKE is 9", oars.race(9), 7);
        Check.edge(29, "the last STROKE is 10", oars.race(10), 8);
        Check.edge(29, "the last STROKE is 69", oars.race(69), 13);
        Check.edge(29, "the last STROKE is 70", oars.race(70), 14);
        EvenOars tired = Tapes.boat("seat 1 arm 1;rower a strength 7 tires 1;");
        tired.stroke(8);
        Check.edge(29, "the first STROKE is 9", tired.race(1), 7);
        Check.edge(29, "the first STROKE is 9", tired.race(300), 7);
        tired.stroke(1);
        Check.edge(29, "the first STROKE is 10: this one does not count", tired.race(1), 6);
        Check.edge(29, "the first STROKE is 10: this one does not count", tired.race(300), 6);
        Check.edge(29, "without sign", Tapes.boat("seat 1 arm 1;rower a strength 7 tires 0;fix 1 left;").race(1), 7);
    }

    // Promises 29 to 31 (Terms II): STROKES with three digits: floor(STROKE / 10) at their ends.
    private static void racesBeyondHundred() {
        // As they sit 0, 1, 2, .. in the tens, to the other side of SEAT 0 100, 99, ..
        EvenOars oars = Tapes.boat("seat 1 arm 1;seat 2 arm 1;rower a strength 50 tires 1;rower b strength 25 tires 0;");
        for (int n : new int[] {9, 10, 99, 100, 109, 110, 299, 300}) {
            Check.edge(29, "the last STROKE is " + n, oars.race(n), n / 10);
            Check.edge(30, "the last STROKE is " + n, oars.stillest(n, 0), n / 10);
            Check.edge(30, "the last STROKE is " + n + ", the least bits", oars.stillest(n, 1), 1);
        }
        oars.stroke(149);
        Check.edge(29, "the first STROKE is 150", oars.race(9), 15);
        Check.edge(29, "the last STROKE is 449", oars.race(300), 44);
        Check.edge(30, "the last STROKE is 449", oars.stillest(300, 0), 44);
        // As they sit 50 and more; changed from STROKE 150 on 50 less 2 in each ten.
        EvenOars change = Tapes.boat("seat 1 arm 1;seat 2 arm 1;rower a strength 50 tires 1;rower b strength 50 tires 0;");
        change.stroke(149);
        Check.edge(31, "the first STROKE is 150: GREATEST", change.under(100, 0), 20);
        Check.edge(31, "the first STROKE is 150", change.under(100, 1), 150);
        change.stroke(1);
        Check.edge(31, "the first STROKE is 151: GREATEST", change.under(100, 0), 20);
        Check.edge(31, "the first STROKE is 151", change.under(100, 1), 151);
        change.stroke(9);
        Check.edge(31, "the first STROKE is 160: GREATEST", change.under(1, 0), 18);
        Check.edge(31, "the first STROKE is 160", change.under(1, 1), 160);
    }

    // Promise 29: a RACE goes on beyond STROKE 9999, as those who do not tire row on.
    private static void raceAtTheEnd() {
        EvenOars oars = Tapes.boat(TWO + "seat 7 arm 1;rower c strength 3 tires 0;");
        for (int k = 0; k < 50; k++) {
            oars.stroke(k < 49 ? 200 : 199);
        }
        Check.edge(29, "at STROKE 9999, 1 on", oars.race(1), 21);
        Check.edge(29, "at STROKE 9999, 300 on", oars.race(300), 21);
        Check.edge(30, "at STROKE 9999, 300 on", oars.stillest(300, 0), 21);
        Check.edge(31, "at STROKE 9999, 100 on", oars.under(100, 0), 3);
    }

    // Promise 30: NONE for others than 1 .. 300, and 0, 1.
    private static void stillestOfOthers() {
        EvenOars oars = Tapes.boat(TWO);
        for (int n : new int[] {0, -1, 301, LARGEST, SMALLEST}) {
            Check.edge(30, "others: " + n, oars.stillest(n, 0), NONE);
            Check.edge(30, "others: " + n, oars.stillest(n, 1), NONE);
        }
        for (int what : new int[] {-1, 2, LARGEST, SMALLEST}) {
            Check.edge(30, "others: " + what, oars.stillest(1, what), NONE);
        }
        Check.edge(30, "the least", oars.stillest(1, 0), 10);
        Check.edge(30, "the most", oars.stillest(300, 0), 10);
        Check.edge(30, "no SEATS", new EvenOars().stillest(1, 0), 0);
        Check.edge(30, "no SEATS", new EvenOars().stillest(300, 1), 0);
    }

    // Promise 30: NONE without LAWFUL sides.
    private static void stillestWithoutLawful() {
        String[] never = {"each 1;", TWO + "each 3;", TWO + "fix 1 right;each 2;", TWO + "fix 3 left;each 0;"};
        for (String text : never) {
            Check.edge(30, "without LAWFUL sides", Tapes.boat(text).stillest(1, 0), NONE);
            Check.edge(30, "without LAWFUL sides", Tapes.boat(text).stillest(300, 1), NONE);
        }
        Check.edge(30, "one alone is LAWFUL", Tapes.boat(TWO + "each 0;").stillest(300, 1), 3);
        Check.edge(30, "one alone is LAWFUL", Tapes.boat(TWO + "each 2;").stillest(300, 0), 50);
        Check.edge(30, "12 SEATS, all fixed", Tapes.boat(EdgesOfBoat.greatest("left")).stillest(300, 0),
                EdgesOfBoat.greatestSwing(1));
    }

    // Promise 30: as far as the last STROKE, from the next one on; of like ones the least bits.
    private static void stillestFirstAndLastStroke() {
        // 10 and 30 (then 29, 28, ..) to one side or to both.
        EvenOars oars = Tapes.boat("seat 1 arm 1;seat 3 arm 1;seat 2 arm 1;rower a strength 10 tires 0;"
                + "rower b strength 10 tires 1;rower c strength 20 tires 0;");
        Check.edge(30, "until STROKE 9: 40 - 30 - 10", oars.stillest(9, 0), 0);
        Check.edge(30, "until STROKE 9: the least bits", oars.stillest(9, 1), 3);
        Check.edge(30, "until STROKE 10", oars.stillest(10, 0), 3);
        Check.edge(30, "until STROKE 19", oars.stillest(19, 0), 3);
        Check.edge(30, "until STROKE 20", oars.stillest(20, 0), 6);
        oars.stroke(9);
        Check.edge(30, "from STROKE 10 on", oars.stillest(1, 0), 3);
        Check.edge(30, "from STROKE 10 on: 40 - 27 - 10", oars.stillest(1, 1), 3);
        Check.edge(30, "however they row now", oars.turn(0) && oars.stillest(1, 1) == 3, true);
    }

    // Promise 31: NONE for others than 1 .. 100, and 0 .. 3.
    private static void underOfOthers() {
        EvenOars oars = Tapes.boat(TWO);
        for (int n : new int[] {0, -1, 101, 300, LARGEST, SMALLEST}) {
            for (int what = 0; what <= 3; what++) {
                Check.edge(31, "others: " + n, oars.under(n, what), NONE);
            }
        }
        for (int what : new int[] {-1, 4, LARGEST, SMALLEST}) {
            Check.edge(31, "others: " + what, oars.under(1, what), NONE);
        }
        Check.edge(31, "the least", oars.under(1, 1), 1);
        // As they sit 10 at most, 2 in the nineties; changed 115 at first, 12 in the nineties.
        Check.edge(31, "the most", oars.under(100, 0), 10);
        Check.edge(31, "the most: at the last STROKE", oars.under(100, 1), 100);
        Check.edge(31, "one less than the most", oars.under(99, 0), 12);
    }

    // Promise 31: NONE with fewer than two SEATS; two without ROWERS are enough.
    private static void underFewSeats() {
        String[] few = {"", "rower a strength 1 tires 0;rower b strength 1 tires 0;", alike(1), alike(1, 5, 6)};
        for (String text : few) {
            for (int what = 0; what <= 3; what++) {
                Check.edge(31, "fewer than two SEATS: " + what, Tapes.boat(text).under(1, what), NONE);
            }
        }
        EvenOars two = Tapes.boat(alike(2));
        int[] due = {0, 1, 0, 1};
        for (int what = 0; what <= 3; what++) {
            Check.edge(31, "two SEATS, no ROWERS: " + what, two.under(100, what), due[what]);
        }
        EvenOars one = Tapes.boat(alike(2, 5));
        Check.edge(31, "one ROWER, none in the other SEAT", one.under(1, 0), 10);
    }

    // Promise 31: the change is at the first STROKE of the RACE, at the last one, in between.
    private static void underFirstAndLastStroke() {
        // As they sit 0, 9, 18, 20 in the tens; changed 30, 12, 6, 10.
        EvenOars oars = Tapes.boat("seat 1 arm 1;seat 2 arm 1;rower a strength 20 tires 9;rower b strength 10 tires 0;");
        Check.edge(31, "until STROKE 9: GREATEST", oars.under(9, 0), 30);
        Check.edge(31, "until STROKE 9: the first STROKE", oars.under(9, 1), 1);
        Check.edge(31, "until STROKE 10, the last one: GREATEST", oars.under(10, 0), 12);
        Check.edge(31, "until STROKE 10, the last one", oars.under(10, 1), 10);
        Check.edge(31, "until STROKE 20, the last one: GREATEST", oars.under(20, 0), 9);
        Check.edge(31, "until STROKE 20, the last one", oars.under(20, 1), 20);
        // To the other sides all is below 0.
        EvenOars below = Tapes.boat("seat 1 arm 1;seat 2 arm 1;rower a strength 20 tires 9;rower b strength 10 tires 0;"
                + "fix 1 right;fix 2 left;");
        Check.edge(31, "below 0, until STROKE 10: GREATEST", below.under(10, 0), 12);
        Check.edge(31, "below 0, until STROKE 20: GREATEST", below.under(20, 0), 9);
        Check.edge(31, "below 0, until STROKE 20, the last one", below.under(20, 1), 20);
        oars.stroke(9);
        Check.edge(31, "from STROKE 10 on: GREATEST", oars.under(1, 0), 12);
        Check.edge(31, "from STROKE 10 on: the STROKE", oars.under(1, 1), 10);
        oars.stroke(5);
        Check.edge(31, "from STROKE 15 on: the STROKE", oars.under(5, 1), 15);
        Check.edge(31, "until STROKE 20: the last one", oars.under(6, 1), 20);
    }

    // Promise 31: of like ones the first by STROKES, the lesser SEAT, the other one; all of 12 SEATS.
    private static void underOfLikeOnes() {
        EvenOars like = Tapes.boat(alike(4, 5, 5, 5, 5));
        int[] due = {10, 1, 0, 1};
        for (int what = 0; what <= 3; what++) {
            Check.edge(31, "all like: " + what, like.under(100, what), due[what]);
        }
        // Only the ROWER in SEAT 11 makes a swing (11 SEATS are without): he moves to the least place.
        EvenOars last = Tapes.boat(alike(12, 5));
        last.swap(0, 11);
        int[] far = {5, 1, 0, 11};
        for (int what = 0; what <= 3; what++) {
            Check.edge(31, "the first and the last SEAT: " + what, last.under(100, what), far[what]);
        }
        EvenOars behind = Tapes.boat("seat 9 arm 9;seat 3 arm 1;seat 1 arm 1;fix 9 left;fix 3 right;fix 1 left;"
                + "rower a strength 1 tires 0;rower b strength 50 tires 0;rower c strength 99 tires 0;");
        // As they sit it is -81 + 150 - 99, with 1 and 2 changed -81 + 297 - 50.
        int[] worse = {166, 1, 1, 2};
        for (int what = 0; what <= 3; what++) {
            Check.edge(31, "neither is SEAT 0: " + what, behind.under(1, what), worse[what]);
        }
        // As they sit 5, 4, 0 in the tens; with 0 and 1 changed 20, 11, 0, so from 20 on these are as good.
        EvenOars first = Tapes.boat("seat 1 arm 1;seat 2 arm 1;seat 3 arm 1;seat 4 arm 1;rower a strength 15 tires 9;"
                + "rower b strength 10 tires 9;");
        int[] soonest = {5, 1, 2, 3};
        for (int what = 0; what <= 3; what++) {
            Check.edge(31, "the first by STROKES ahead of lesser SEATS: " + what, first.under(25, what), soonest[what]);
        }
        EvenOars other = Tapes.boat("seat 9 arm 9;seat 8 arm 9;seat 2 arm 1;seat 1 arm 1;rower a strength 5 tires 0;");
        other.swap(0, 3);
        int[] stays = {5, 1, 0, 1};
        for (int what = 0; what <= 3; what++) {
            Check.edge(31, "SEATS without ROWERS change nothing: " + what, other.under(100, what), stays[what]);
        }
    }
}

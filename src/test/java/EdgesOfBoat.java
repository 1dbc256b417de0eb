/** Boundary cases of promises 6 to 15: what a boat is, and its swings. */
final class EdgesOfBoat {
    private static final int NONE = EvenOars.NONE;
    private static final long NOTHING = EvenOars.NOTHING;
    private static final int LARGEST = Integer.MAX_VALUE;
    private static final int SMALLEST = Integer.MIN_VALUE;
    private static final String TWO_AND_MORE_ROWERS = "seat 4 arm 5;seat 9 arm 2;rower ann strength 9 tires 4;"
            + "rower bo strength 8 tires 0;rower abcxyz strength 3 tires 1;";
    private static final String THREE_AND_FEWER_ROWERS = "seat 4 arm 5;seat 9 arm 2;seat 1 arm 99;"
            + "rower ann strength 9 tires 4;fix 9 left;fix 1 right;";

    private EdgesOfBoat() {
    }

    static void run() {
        boatOfOthers();
        boatWithout();
        boatFull();
        letterBehindAndNone();
        seatNone();
        seatWithoutRower();
        rowerNone();
        rowerWithoutSeat();
        strengthNotBelowZero();
        firstSidesAndRowers();
        wantNone();
        swingNone();
        swingFirstAndLastStroke();
        swingLarge();
        offWithoutAndExact();
        goodJustNear();
        lawfulWithoutAndAll();
        headingAtFirstAndBelowZero();
    }

    /** Twelve seats of the greatest places, arms and strengths, all fixed to one side. */
    static String greatest(String side) {
        StringBuilder text = new StringBuilder();
        for (int k = 0; k < 12; k++) {
            text.append("seat ").append(99 - k).append(" arm 99;");
            text.append("rower ").append((char) ('a' + k)).append(" strength 99 tires 0;");
            text.append("fix ").append(99 - k).append(' ').append(side).append(';');
        }
        return text.toString();
    }

    /** What the greatest boat's swing of a power is, to the right. */
    static long greatestSwing(int power) {
        long sum = 0;
        for (int k = 0; k < 12; k++) {
            sum += 99L * 99 * SlowOars.pow(99 - k, power);
        }
        return sum;
    }

    // Promise 6: NONE for others.
    private static void boatOfOthers() {
        EvenOars oars = Tapes.boat(THREE_AND_FEWER_ROWERS);
        for (int what : new int[] {-1, 11, 12, LARGEST, SMALLEST}) {
            Check.edge(6, "others: " + what, oars.boat(what), NONE);
        }
        Check.edge(6, "the first one", oars.boat(0), 3);
        Check.edge(6, "the last one", oars.boat(10), 2);
    }

    // Promise 6: NONE any; a boat with nothing else.
    private static void boatWithout() {
        EvenOars any = Tapes.boat("near 9999;");
        Check.edge(6, "any are to row to the left", any.boat(2), NONE);
        Check.edge(6, "near, the most", any.boat(5), 9999);
        for (int what : new int[] {0, 1, 3, 4, 6, 7, 8, 9, 10}) {
            Check.edge(6, "empty: " + what, any.boat(what), 0);
        }
        Check.edge(6, "0 are to row to the left", Tapes.boat("each 0;").boat(2), 0);
        Check.edge(6, "12 are to row to the left", Tapes.boat("each 12;").boat(2), 12);
    }

    // Promise 6: full: all fixed, all WANTS, 30 ACTS, STROKE 9999.
    private static void boatFull() {
        EvenOars oars = Tapes.boat(greatest("left") + "want 0 is 0;want 1 is 0;want 2 is 0;want 3 is 0;");
        Check.edge(6, "all SEATS are fixed", oars.boat(3), 12);
        Check.edge(6, "all POWERS are wanted", oars.boat(4), 4);
        Check.edge(6, "all SEATS row to the left", oars.boat(10), 12);
        for (int k = 0; k < 50; k++) {
            oars.stroke(k < 49 ? 200 : 199);
            Check.edge(6, "ACTS, 30 at most", oars.boat(9), Math.min(30, k + 1));
        }
        Check.edge(6, "the last STROKE", oars.boat(8), 9999);
        Check.edge(6, "no SEAT rows to the left", Tapes.boat(greatest("right")).boat(10), 0);
    }

    // Promise 7: 0 behind the NAME; NONE when there is none such.
    private static void letterBehindAndNone() {
        EvenOars oars = Tapes.boat(TWO_AND_MORE_ROWERS);
        int[][] due = {{1, 14, 14, 0, 0, 0}, {2, 15, 0, 0, 0, 0}, {1, 2, 3, 24, 25, 26}};
        for (int r = 0; r < 3; r++) {
            for (int k = 0; k < 6; k++) {
                Check.edge(7, "0 behind it: ROWER " + r + ", " + k, oars.letter(r, k), due[r][k]);
            }
            for (int k : new int[] {-1, 6, LARGEST, SMALLEST}) {
                Check.edge(7, "no such letter: ROWER " + r + ", " + k, oars.letter(r, k), NONE);
            }
        }
        for (int r : new int[] {-1, 3, 12, LARGEST, SMALLEST}) {
            Check.edge(7, "no such ROWER: " + r, oars.letter(r, 0), NONE);
            Check.edge(7, "no such ROWER: " + r, oars.letter(r, 5), NONE);
        }
        Tapes.text(oars, "rower q strength 1 tires 0;");
        Check.edge(7, "behind a shorter NAME of a new BOAT", oars.letter(0, 1), 0);
        Check.edge(7, "a ROWER of the former BOAT", oars.letter(1, 0), NONE);
    }

    // Promise 8: NONE when there is none such, or for others.
    private static void seatNone() {
        EvenOars oars = Tapes.boat(THREE_AND_FEWER_ROWERS);
        for (int s = 0; s < 3; s++) {
            for (int what : new int[] {-1, 6, LARGEST, SMALLEST}) {
                Check.edge(8, "others: SEAT " + s + ", " + what, oars.seat(s, what), NONE);
            }
        }
        for (int s : new int[] {-1, 3, 12, LARGEST, SMALLEST}) {
            for (int what = 0; what <= 5; what++) {
                Check.edge(8, "no such SEAT: " + s + ", " + what, oars.seat(s, what), NONE);
            }
        }
    }

    // Promise 8: NONE without a ROWER, PULL 0 then; 0 and 1; the greatest PULL, that of no STRENGTH.
    private static void seatWithoutRower() {
        EvenOars oars = Tapes.boat(THREE_AND_FEWER_ROWERS);
        int[][] due = {{4, 5, 0, 0, 0, 45}, {9, 2, NONE, 0, 1, 0}, {1, 99, NONE, 1, 1, 0}};
        for (int s = 0; s < 3; s++) {
            for (int what = 0; what <= 5; what++) {
                Check.edge(8, "SEAT " + s + ", " + what, oars.seat(s, what), due[s][what]);
            }
        }
        oars.swap(0, 2);
        Check.edge(8, "without a ROWER behind a swap", oars.seat(0, 2), NONE);
        Check.edge(8, "no PULL without a ROWER", oars.seat(0, 5), 0);
        Check.edge(8, "the PULL of the other SEAT's arm", oars.seat(2, 5), 9 * 99);
        oars.stroke(29);
        Check.edge(8, "the PULL now: STRENGTH 1", oars.seat(2, 5), 99);
        oars.stroke(1);
        Check.edge(8, "the PULL now: STRENGTH 0", oars.seat(2, 5), 0);
        EvenOars great = Tapes.boat(greatest("left"));
        Check.edge(8, "the greatest PULL, without sides", great.seat(11, 5), 9801);
        Check.edge(8, "the last ROWER", great.seat(11, 2), 11);
        Check.edge(8, "the least place of these", great.seat(11, 0), 88);
    }

    // Promise 9: NONE when there is none such, or for others.
    private static void rowerNone() {
        EvenOars oars = Tapes.boat(TWO_AND_MORE_ROWERS);
        for (int r = 0; r < 3; r++) {
            for (int what : new int[] {-1, 4, LARGEST, SMALLEST}) {
                Check.edge(9, "others: ROWER " + r + ", " + what, oars.rower(r, what), NONE);
            }
        }
        for (int r : new int[] {-1, 3, 12, LARGEST, SMALLEST}) {
            for (int what = 0; what <= 3; what++) {
                Check.edge(9, "no such ROWER: " + r + ", " + what, oars.rower(r, what), NONE);
            }
        }
    }

    // Promise 9: his SEAT, NONE without.
    private static void rowerWithoutSeat() {
        EvenOars oars = Tapes.boat(TWO_AND_MORE_ROWERS);
        Check.edge(9, "the first SEAT", oars.rower(0, 3), 0);
        Check.edge(9, "the last SEAT", oars.rower(1, 3), 1);
        Check.edge(9, "without a SEAT", oars.rower(2, 3), NONE);
        Check.edge(9, "strength without a SEAT", oars.rower(2, 0), 3);
        Check.edge(9, "STRENGTH without a SEAT", oars.rower(2, 2), 3);
        Check.edge(9, "no SEATS at all", Tapes.boat("rower a strength 1 tires 0;").rower(0, 3), NONE);
    }

    // Promise 9 (Terms II): floor(STROKE / 10), 0 at least.
    private static void strengthNotBelowZero() {
        EvenOars oars = Tapes.boat(TWO_AND_MORE_ROWERS);
        int[] strokes = {9, 1, 9, 1, 9, 1, 200};
        int[] ann = {9, 5, 5, 1, 1, 0, 0};
        for (int k = 0; k < strokes.length; k++) {
            oars.stroke(strokes[k]);
            Check.edge(9, "STRENGTH at STROKE " + oars.boat(8), oars.rower(0, 2), ann[k]);
            Check.edge(9, "STRENGTH of one who does not tire", oars.rower(1, 2), 8);
            Check.edge(9, "strength as told", oars.rower(0, 0), 9);
            Check.edge(9, "tires as told", oars.rower(0, 1), 4);
        }
        EvenOars strong = Tapes.boat("rower a strength 99 tires 1;rower b strength 99 tires 9;");
        for (int k = 0; k < 5; k++) {
            strong.stroke(198);
        }
        Check.edge(9, "STRENGTH 0 just now", strong.rower(0, 2), 0);
        strong.undo();
        strong.stroke(197);
        Check.edge(9, "STRENGTH 1 just yet", strong.rower(0, 2), 1);
        Check.edge(9, "STRENGTH long gone", strong.rower(1, 2), 0);
    }

    // Terms II: SEATS row to the left and to the right in turn, the first one to the left, but fixed ones.
    private static void firstSidesAndRowers() {
        EvenOars oars = Tapes.boat("seat 9 arm 1;seat 8 arm 1;seat 7 arm 1;seat 6 arm 1;seat 5 arm 1;seat 4 arm 1;"
                + "fix 9 right;fix 6 left;fix 5 left;rower a strength 1 tires 0;");
        int[] sides = {1, 1, 0, 0, 0, 1};
        for (int s = 0; s < 6; s++) {
            Check.edge(8, "the side at first of SEAT " + s, oars.seat(s, 3), sides[s]);
            Check.edge(8, "fixed: SEAT " + s, oars.seat(s, 4), s == 0 || s == 3 || s == 4 ? 1 : 0);
            Check.edge(8, "as long as there are both: SEAT " + s, oars.seat(s, 2), s == 0 ? 0 : NONE);
        }
        Check.edge(6, "SEATS to the left at first", oars.boat(10), 3);
    }

    // Promise 10: NOTHING when nothing is wanted, or there is none such.
    private static void wantNone() {
        EvenOars oars = Tapes.boat("want 0 is -9999;want 3 is 0;want 1 is 9999;");
        Check.edge(10, "the least", oars.want(0), -9999);
        Check.edge(10, "the most", oars.want(1), 9999);
        Check.edge(10, "nothing is wanted", oars.want(2), NOTHING);
        Check.edge(10, "0 is wanted", oars.want(3), 0);
        for (int p : new int[] {-1, 4, LARGEST, SMALLEST}) {
            Check.edge(10, "no such POWER: " + p, oars.want(p), NOTHING);
        }
        Tapes.text(oars, "want 2 is 1;");
        Check.edge(10, "what the former BOAT wanted", oars.want(0), NOTHING);
        Check.edge(10, "a new object", new EvenOars().want(0), NOTHING);
    }

    // Promise 11: NOTHING when there are none such.
    private static void swingNone() {
        EvenOars oars = Tapes.boat(TWO_AND_MORE_ROWERS);
        for (int p : new int[] {-1, 4, LARGEST, SMALLEST}) {
            Check.edge(11, "no such POWER: " + p, oars.swing(p, 0), NOTHING);
        }
        for (int stroke : new int[] {-1, 10000, LARGEST, SMALLEST}) {
            Check.edge(11, "no such STROKE: " + stroke, oars.swing(0, stroke), NOTHING);
            Check.edge(11, "no such STROKE: " + stroke, oars.swing(3, stroke), NOTHING);
        }
        Check.edge(11, "without SEATS", new EvenOars().swing(3, 9999), 0);
        Check.edge(11, "without ROWERS", Tapes.boat("seat 99 arm 99;").swing(3, 0), 0);
    }

    // Promise 11: the first and the last STROKE, POWERS 0 and 3, sides and SEATS as they are.
    private static void swingFirstAndLastStroke() {
        EvenOars oars = Tapes.boat(TWO_AND_MORE_ROWERS);
        Check.edge(11, "POWER 0, STROKE 0", oars.swing(0, 0), -45 + 16);
        Check.edge(11, "POWER 3, STROKE 0", oars.swing(3, 0), -45 * 64 + 16 * 729);
        Check.edge(11, "STROKE 9", oars.swing(0, 9), -45 + 16);
        Check.edge(11, "STROKE 10", oars.swing(0, 10), -25 + 16);
        Check.edge(11, "STROKE 29", oars.swing(0, 29), -5 + 16);
        Check.edge(11, "STROKE 30", oars.swing(0, 30), 16);
        Check.edge(11, "STROKE 9999", oars.swing(3, 9999), 16 * 729);
        oars.stroke(30);
        Check.edge(11, "a STROKE that has gone by", oars.swing(0, 0), -45 + 16);
        oars.turn(0);
        oars.swap(0, 1);
        Check.edge(11, "sides and SEATS as they are", oars.swing(1, 0), 5 * 8 * 4 + 2 * 9 * 9);
    }

    // Promise 11: greater than 32 bits can hold.
    private static void swingLarge() {
        for (int p = 0; p <= 3; p++) {
            Check.edge(11, "the greatest to the right, POWER " + p,
                    Tapes.boat(greatest("right")).swing(p, 9999), greatestSwing(p));
            Check.edge(11, "the greatest to the left, POWER " + p,
                    Tapes.boat(greatest("left")).swing(p, 9999), -greatestSwing(p));
        }
    }

    // Promise 12: 0 without WANTS; 0 when all is as wanted; without sign.
    private static void offWithoutAndExact() {
        Check.edge(12, "without WANTS", Tapes.boat(TWO_AND_MORE_ROWERS).off(), 0);
        Check.edge(12, "a new object", new EvenOars().off(), 0);
        Check.edge(12, "as wanted", Tapes.boat(TWO_AND_MORE_ROWERS + "want 0 is -29;").off(), 0);
        Check.edge(12, "1 above", Tapes.boat(TWO_AND_MORE_ROWERS + "want 0 is -30;").off(), 1);
        Check.edge(12, "1 below", Tapes.boat(TWO_AND_MORE_ROWERS + "want 0 is -28;").off(), 1);
        Check.edge(12, "above and below do not meet",
                Tapes.boat(TWO_AND_MORE_ROWERS + "want 0 is -30;want 1 is -35;").off(), 2);
        Check.edge(12, "without SEATS", Tapes.boat("want 0 is -9999;want 3 is 9999;").off(), 19998);
        EvenOars great = Tapes.boat(greatest("left") + "want 0 is 9999;want 1 is 9999;want 2 is 9999;want 3 is 9999;");
        long due = greatestSwing(0) + greatestSwing(1) + greatestSwing(2) + greatestSwing(3) + 4 * 9999;
        Check.edge(12, "the greatest", great.off(), due);
        EvenOars now = Tapes.boat(TWO_AND_MORE_ROWERS + "want 0 is -29;");
        now.stroke(9);
        Check.edge(12, "OFF now, at STROKE 9", now.off(), 0);
        now.stroke(1);
        Check.edge(12, "OFF now, at STROKE 10", now.off(), 20);
    }

    // Promise 13: near or not above near, each by itself; without WANTS.
    private static void goodJustNear() {
        Check.edge(13, "without WANTS", Tapes.boat(TWO_AND_MORE_ROWERS).good(), 1);
        Check.edge(13, "a new object", new EvenOars().good(), 1);
        Check.edge(13, "near 0, as wanted", Tapes.boat(TWO_AND_MORE_ROWERS + "want 0 is -29;").good(), 1);
        Check.edge(13, "near 0, 1 above", Tapes.boat(TWO_AND_MORE_ROWERS + "want 0 is -30;").good(), 0);
        Check.edge(13, "near 0, 1 below", Tapes.boat(TWO_AND_MORE_ROWERS + "want 0 is -28;").good(), 0);
        Check.edge(13, "just near, above", Tapes.boat(TWO_AND_MORE_ROWERS + "near 5;want 0 is -34;").good(), 1);
        Check.edge(13, "just near, below", Tapes.boat(TWO_AND_MORE_ROWERS + "near 5;want 0 is -24;").good(), 1);
        Check.edge(13, "just not near, above", Tapes.boat(TWO_AND_MORE_ROWERS + "near 5;want 0 is -35;").good(), 0);
        Check.edge(13, "just not near, below", Tapes.boat(TWO_AND_MORE_ROWERS + "near 5;want 0 is -23;").good(), 0);
        // POWER 1 is -36.
        Check.edge(13, "each is near, not all together",
                Tapes.boat(TWO_AND_MORE_ROWERS + "near 5;want 0 is -34;want 1 is -31;").good(), 1);
        Check.edge(13, "the last of two is not near",
                Tapes.boat(TWO_AND_MORE_ROWERS + "near 5;want 0 is -34;want 1 is -30;").good(), 0);
        Check.edge(13, "the first of two is not near",
                Tapes.boat(TWO_AND_MORE_ROWERS + "near 5;want 0 is -35;want 1 is -31;").good(), 0);
    }

    // Promise 14: any without each; none, all, more than there are to the left; no SEATS.
    private static void lawfulWithoutAndAll() {
        Check.edge(14, "a new object", new EvenOars().lawful(), 1);
        Check.edge(14, "no SEATS, each 0", Tapes.boat("each 0;").lawful(), 1);
        Check.edge(14, "no SEATS, each 1", Tapes.boat("each 1;").lawful(), 0);
        Check.edge(14, "without each", Tapes.boat(TWO_AND_MORE_ROWERS).lawful(), 1);
        Check.edge(14, "as many as told", Tapes.boat(TWO_AND_MORE_ROWERS + "each 1;").lawful(), 1);
        Check.edge(14, "one too few", Tapes.boat(TWO_AND_MORE_ROWERS + "each 2;").lawful(), 0);
        Check.edge(14, "one too many", Tapes.boat(TWO_AND_MORE_ROWERS + "each 0;").lawful(), 0);
        Check.edge(14, "more than SEATS", Tapes.boat(TWO_AND_MORE_ROWERS + "each 12;").lawful(), 0);
        Check.edge(14, "all to the left", Tapes.boat(greatest("left") + "each 12;").lawful(), 1);
        Check.edge(14, "none to the left", Tapes.boat(greatest("right") + "each 0;").lawful(), 1);
        EvenOars oars = Tapes.boat(TWO_AND_MORE_ROWERS + "each 1;");
        oars.turn(0);
        Check.edge(14, "one too few behind a turn", oars.lawful(), 0);
        oars.turn(1);
        Check.edge(14, "as many again", oars.lawful(), 1);
    }

    // Promise 15: 0 at first and behind a BOAT; below 0; as STROKES alone go by.
    private static void headingAtFirstAndBelowZero() {
        EvenOars oars = new EvenOars();
        Check.edge(15, "a new object", oars.heading(), 0);
        Tapes.text(oars, "seat 1 arm 1;rower a strength 99 tires 0;");
        Check.edge(15, "behind a BOAT", oars.heading(), 0);
        long heading = oars.row(1);
        Check.edge(15, "below 0", oars.heading(), heading);
        Check.edge(15, "below 0", heading <= -98 && heading >= -100, true);
        oars.stroke(200);
        Check.edge(15, "STROKES alone", oars.heading(), heading);
        Tapes.text(oars, "?");
        Check.edge(15, "a FAULT", oars.heading(), heading);
        Tapes.text(oars, "");
        Check.edge(15, "behind the next BOAT", oars.heading(), 0);
    }
}

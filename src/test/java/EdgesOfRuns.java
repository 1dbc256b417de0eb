/** Boundary cases of promises 32 to 36: runs and heirs. */
final class EdgesOfRuns {
    private static final int NONE = EvenOars.NONE;
    private static final long NOTHING = EvenOars.NOTHING;
    private static final int LARGEST = Integer.MAX_VALUE;
    private static final int SMALLEST = Integer.MIN_VALUE;
    private static final String TWO = "seat 2 arm 3;seat 5 arm 1;rower a strength 4 tires 9;rower b strength 7 tires 0;";
    private static final String ONE = "seat 1 arm 5;rower a strength 4 tires 0;";

    private EdgesOfRuns() {
    }

    static void run() {
        fitsWithout();
        fitsJustNear();
        fitsFirstAndLast();
        fitsAsAtFirst();
        strengthsOfOthers();
        strengthsSixAndSeven();
        strengthsWithoutRows();
        strengthsLeastAndGreatest();
        crookedWithout();
        crookedArms();
        crookedFirstAndLast();
        heirsWithout();
        heirsOfOthers();
        heirsOneAndTwelve();
        apartNone();
        apartLeastAndMost();
    }

    private static int fits(String text) {
        return Tapes.boat(text).fits();
    }

    // Promise 32: NONE when all do, and without RUNS.
    private static void fitsWithout() {
        Check.edge(32, "a new object", new EvenOars().fits(), NONE);
        Check.edge(32, "without RUNS", fits(TWO), NONE);
        Check.edge(32, "without ROWERS", fits("seat 1 arm 1;run r power 0 swung 0;"), NONE);
        Check.edge(32, "without ROWERS, but it swung", fits("seat 1 arm 1;run r power 0 swung 1;"), 0);
        Check.edge(32, "no SEAT rows", fits(TWO + "run xx power 3 swung 0;"), NONE);
        Check.edge(32, "no SEAT rows, but it swung", fits(TWO + "run xx power 3 swung -1;"), 0);
    }

    // Promise 32 (Terms III): not off by more than near.
    private static void fitsJustNear() {
        Check.edge(32, "near 0, as it swung", fits(TWO + "run rr power 0 swung 19;"), NONE);
        Check.edge(32, "near 0, 1 above", fits(TWO + "run rr power 0 swung 18;"), 0);
        Check.edge(32, "near 0, 1 below", fits(TWO + "run rr power 0 swung 20;"), 0);
        Check.edge(32, "just near, above", fits(TWO + "near 3;run rr power 0 swung 16;"), NONE);
        Check.edge(32, "just near, below", fits(TWO + "near 3;run rr power 0 swung 22;"), NONE);
        Check.edge(32, "just not near, above", fits(TWO + "near 3;run rr power 0 swung 15;"), 0);
        Check.edge(32, "just not near, below", fits(TWO + "near 3;run rr power 0 swung 23;"), 0);
        Check.edge(32, "near told behind the RUN", fits(TWO + "run rr power 0 swung 22;near 3;"), NONE);
        String great = EdgesOfBoat.greatest("left") + "run llllllllllll power 3 swung -99999;";
        Check.edge(32, "more than 32 bits can hold", fits(great), 0);
    }

    // Promise 32: the first one of 8.
    private static void fitsFirstAndLast() {
        String fit = "run rl power 0 swung 5;";
        String unfit = "run rl power 0 swung 6;";
        for (int k = 0; k < 8; k++) {
            Check.edge(32, "RUN " + k + " alone", fits(TWO + fit.repeat(k) + unfit + fit.repeat(7 - k)), k);
            Check.edge(32, "RUN " + k + " and all behind", fits(TWO + fit.repeat(k) + unfit.repeat(8 - k)), k);
        }
        Check.edge(32, "full: all 8 FIT", fits(TWO + fit.repeat(8)), NONE);
    }

    // Terms III: as they sit at first, at STROKE 0; SEATS told behind a RUN do not row.
    private static void fitsAsAtFirst() {
        EvenOars oars = Tapes.boat(TWO + "run rl power 0 swung 5;");
        oars.stroke(200);
        oars.swap(0, 1);
        oars.turn(0);
        Check.edge(32, "as they sat at first, at STROKE 0", oars.fits(), NONE);
        Check.edge(33, "as they sat at first: 3 a - b is 5", oars.strengths(0, 1), 2);
        Check.edge(34, "as they sat at first", oars.crooked(), 0);
        Check.edge(32, "a SEAT told behind does not row",
                fits("seat 2 arm 3;rower a strength 4 tires 9;rower b strength 7 tires 0;run r power 1 swung 24;seat 5 arm 1;"),
                NONE);
        Check.edge(32, "a ROWER told behind does",
                fits("seat 2 arm 3;seat 5 arm 1;run rr power 1 swung 59;rower a strength 4 tires 9;rower b strength 7 tires 0;"),
                NONE);
    }

    // Promise 33: NONE when there is none such, or for others.
    private static void strengthsOfOthers() {
        EvenOars oars = Tapes.boat(TWO + "run rr power 0 swung 20;");
        for (int r : new int[] {-1, 2, 5, 6, 12, LARGEST, SMALLEST}) {
            for (int what = 0; what <= 2; what++) {
                Check.edge(33, "no such ROWER: " + r + ", " + what, oars.strengths(r, what), NONE);
            }
        }
        for (int what : new int[] {-1, 3, LARGEST, SMALLEST}) {
            Check.edge(33, "others: " + what, oars.strengths(0, what), NONE);
            Check.edge(33, "others: " + what, oars.strengths(1, what), NONE);
        }
        Check.edge(33, "a new object", new EvenOars().strengths(0, 0), NONE);
        Check.edge(33, "SEATS alone", Tapes.boat("seat 1 arm 1;").strengths(0, 0), NONE);
    }

    // Promise 33: 6 ROWERS, 7 are too many.
    private static void strengthsSixAndSeven() {
        StringBuilder text = new StringBuilder();
        long rows = 1;
        for (int r = 0; r < 6; r++) {
            text.append("rower ").append((char) ('a' + r)).append(" strength 50 tires 0;");
            rows *= 9;
            EvenOars oars = Tapes.boat(text.toString());
            Check.edge(33, r + 1 + " ROWERS, all free", oars.strengths(r, 0), rows);
            Check.edge(33, r + 1 + " ROWERS, the least", oars.strengths(r, 1), 1);
            Check.edge(33, r + 1 + " ROWERS, the greatest", oars.strengths(r, 2), 9);
        }
        EvenOars seven = Tapes.boat(text + "rower g strength 50 tires 0;");
        for (int what = 0; what <= 2; what++) {
            Check.edge(33, "7 ROWERS: " + what, seven.strengths(0, what), NONE);
            Check.edge(33, "7 ROWERS, the last one: " + what, seven.strengths(6, what), NONE);
        }
        Tapes.text(seven, text.toString());
        Check.edge(33, "6 ROWERS behind 7", seven.strengths(5, 0), rows);
    }

    // Promise 33: without rows: how many is 0, the strengths are NONE.
    private static void strengthsWithoutRows() {
        String[] never = {"run r power 0 swung 0;", "run r power 0 swung 50;", "run r power 0 swung 4;",
            "run r power 0 swung -5;", "run l power 0 swung 5;", "run x power 0 swung 1;",
            "run r power 0 swung 5;run r power 0 swung 10;", "near 4;run r power 0 swung 0;", "near 4;run r power 0 swung 50;"};
        for (String runs : never) {
            EvenOars oars = Tapes.boat(ONE + runs);
            Check.edge(33, "without rows: " + runs, oars.strengths(0, 0), 0);
            Check.edge(33, "without rows, the least: " + runs, oars.strengths(0, 1), NONE);
            Check.edge(33, "without rows, the greatest: " + runs, oars.strengths(0, 2), NONE);
        }
    }

    // Promise 33: strengths 1 .. 9, RUNS that just FIT.
    private static void strengthsLeastAndGreatest() {
        rows("only 1", ONE + "run r power 0 swung 5;", 0, 1, 1, 1);
        rows("only 9", ONE + "run r power 0 swung 45;", 0, 1, 9, 9);
        rows("only 1, just near", ONE + "near 5;run r power 0 swung 0;", 0, 1, 1, 1);
        rows("only 9, just near", ONE + "near 5;run r power 0 swung 50;", 0, 1, 9, 9);
        rows("only 1, to the left", ONE + "near 5;run l power 0 swung 0;", 0, 1, 1, 1);
        rows("only 9, to the left", ONE + "run l power 0 swung -45;", 0, 1, 9, 9);
        rows("3 to 7, just near at both ends", ONE + "near 10;run r power 0 swung 25;", 0, 5, 3, 7);
        rows("4 to 6, just not near at both ends", ONE + "near 9;run r power 0 swung 25;", 0, 3, 4, 6);
        rows("all, far near", ONE + "near 9999;run r power 0 swung 0;", 0, 9, 1, 9);
        rows("all that does not row", ONE + "run x power 0 swung 0;", 0, 9, 1, 9);
        rows("two RUNS, between both", ONE + "near 10;run r power 0 swung 25;run l power 0 swung -40;", 0, 2, 6, 7);
        rows("one without a SEAT", ONE + "rower b strength 1 tires 0;run r power 0 swung 5;", 1, 9, 1, 9);
        rows("one told behind the RUN", "seat 1 arm 5;run r power 0 swung 5;rower b strength 1 tires 0;", 0, 1, 1, 1);
        rows("more rows than one of the first", TWO + "run rr power 0 swung 19;", 0, 3, 4, 6);
        rows("the last one of two", TWO + "run rr power 0 swung 19;", 1, 3, 1, 7);
        rows("9 and 9 alone, the first one", TWO + "run rr power 0 swung 36;", 0, 1, 9, 9);
        rows("9 and 9 alone, the last one", TWO + "run rr power 0 swung 36;", 1, 1, 9, 9);
        rows("1 and 1 alone", TWO + "run rr power 0 swung 4;", 0, 1, 1, 1);
        rows("9 and 1 alone", TWO + "run rl power 0 swung 26;", 0, 1, 9, 9);
        rows("1 and 9 alone", TWO + "run lr power 0 swung 6;", 1, 1, 9, 9);
    }

    private static void rows(String which, String text, int rower, int count, int least, int greatest) {
        EvenOars oars = Tapes.boat(text);
        Check.edge(33, which, oars.strengths(rower, 0), count);
        Check.edge(33, which + ", the least", oars.strengths(rower, 1), least);
        Check.edge(33, which + ", the greatest", oars.strengths(rower, 2), greatest);
    }

    private static int crooked(String text) {
        return Tapes.boat(text).crooked();
    }

    // Promise 34: none: no RUNS, all FIT as it is, a SEAT that no other arm mends.
    private static void crookedWithout() {
        Check.edge(34, "a new object", new EvenOars().crooked(), 0);
        Check.edge(34, "without RUNS", crooked(TWO), 0);
        Check.edge(34, "all FIT as it is", crooked(TWO + "run rr power 0 swung 19;"), 0);
        Check.edge(34, "all just FIT as it is", crooked(TWO + "near 3;run rr power 0 swung 16;"), 0);
        Check.edge(34, "one just does not FIT", crooked(TWO + "near 3;run rr power 0 swung 15;"), 1);
        Check.edge(34, "without ROWERS", crooked("seat 1 arm 1;run r power 0 swung 1;"), 0);
        Check.edge(34, "a SEAT that does not row", crooked(ONE + "run x power 0 swung 1;"), 0);
        Check.edge(34, "two would be crooked", crooked(TWO + "run rx power 0 swung 16;run xr power 0 swung 14;"), 0);
        Check.edge(34, "one RUN FITS, the other does not", crooked(TWO + "run rx power 0 swung 12;run xr power 0 swung 14;"), 2);
    }

    // Promise 34 (Terms III): another arm of 1 .. 99.
    private static void crookedArms() {
        Check.edge(34, "an arm of 1", crooked(ONE + "run r power 0 swung 4;"), 1);
        Check.edge(34, "an arm of 0", crooked(ONE + "run r power 0 swung 0;"), 0);
        Check.edge(34, "an arm of 99", crooked(ONE + "run r power 0 swung 396;"), 1);
        Check.edge(34, "an arm of 100", crooked(ONE + "run r power 0 swung 400;"), 0);
        Check.edge(34, "an arm below 0", crooked(ONE + "run r power 0 swung -4;"), 0);
        Check.edge(34, "an arm of 1 to the left", crooked(ONE + "run l power 0 swung -4;"), 1);
        Check.edge(34, "an arm of 4, next to its own", crooked(ONE + "run r power 0 swung 16;"), 1);
        Check.edge(34, "an arm of 6, next to its own", crooked(ONE + "run r power 0 swung 24;"), 1);
        Check.edge(34, "no whole arm", crooked(ONE + "run r power 0 swung 22;"), 0);
        Check.edge(34, "no whole arm, but just near", crooked(ONE + "near 2;run r power 0 swung 23;"), 1);
        Check.edge(34, "an arm of 1, just near", crooked(ONE + "near 3;run r power 0 swung 1;"), 1);
        Check.edge(34, "an arm of 1, just not near", crooked(ONE + "near 3;run r power 0 swung 0;"), 0);
        Check.edge(34, "an arm of 99, just near", crooked(ONE + "near 3;run r power 0 swung 399;"), 1);
        Check.edge(34, "an arm of 99, just not near", crooked(ONE + "near 3;run r power 0 swung 400;"), 0);
        String far = "seat 99 arm 1;rower a strength 99 tires 0;";
        Check.edge(34, "99 times the place, POWER 3, is too large", crooked(far + "run r power 3 swung 99999;"), 0);
    }

    // Promise 34: the first and the last SEAT's bit; SEATS behind the ROWERS and behind the RUN.
    private static void crookedFirstAndLast() {
        StringBuilder text = new StringBuilder();
        for (int k = 1; k <= 12; k++) {
            text.append("seat ").append(k).append(" arm 2;rower ").append((char) ('a' + k)).append(" strength 1 tires 0;");
        }
        Check.edge(34, "the first SEAT", crooked(text + "run rxxxxxxxxxxx power 0 swung 1;"), 1);
        Check.edge(34, "the last SEAT", crooked(text + "run xxxxxxxxxxxr power 0 swung 1;"), 2048);
        Check.edge(34, "all SEATS", crooked(text + "run rrrrrrrrrrrr power 0 swung 25;"), 4095);
        Check.edge(34, "a SEAT told behind", crooked(ONE + "rower b strength 4 tires 0;run r power 0 swung 24;seat 2 arm 5;"), 1);
        Check.edge(34, "a SEAT without a ROWER", crooked(ONE + "seat 2 arm 5;run rr power 0 swung 24;"), 1);
    }

    // Promise 35: NONE without PAYMENTS, (what 1) without ways.
    private static void heirsWithout() {
        EvenOars oars = new EvenOars();
        Check.edge(35, "without PAYMENTS, how many", oars.heirs(0), NONE);
        Check.edge(35, "without PAYMENTS, the least bits", oars.heirs(1), NONE);
        String[] never = {"pay 1 on 0;", "pay 2 on 3;pay 1 on 3;", "pay 3 on 1;pay 3 on 2;", "pay 2 on 1;pay 1 on 2;",
            "pay 5 on 5;pay 5 on 5;pay 1 on 0;"};
        for (String pays : never) {
            EvenOars none = Tapes.boat(pays);
            Check.edge(35, "without ways, how many: " + pays, none.heirs(0), 0);
            Check.edge(35, "without ways, the least bits: " + pays, none.heirs(1), NONE);
        }
    }

    // Promise 35: NONE for others.
    private static void heirsOfOthers() {
        EvenOars oars = Tapes.boat("pay 5 on 1;pay 5 on 1;");
        for (int what : new int[] {-1, 2, LARGEST, SMALLEST}) {
            Check.edge(35, "others: " + what, oars.heirs(what), NONE);
        }
    }

    // Promise 35: two PAYMENTS, twelve; the least bits, PAYMENT 0 the first one's.
    private static void heirsOneAndTwelve() {
        EvenOars two = Tapes.boat("pay 999 on 999;pay 999 on 999;");
        Check.edge(35, "two, how many", two.heirs(0), 1);
        Check.edge(35, "two, the least bits", two.heirs(1), 2);
        EvenOars full = Tapes.boat("pay 1 on 0;".repeat(12));
        Check.edge(35, "twelve, how many: PAYMENT 0 is the first one's", full.heirs(0), 462);
        Check.edge(35, "twelve, the least bits", full.heirs(1), 0b0111_1110);
        EvenOars days = Tapes.boat("pay 1 on 999;".repeat(11) + "pay 11 on 999;");
        Check.edge(35, "the last one alone", days.heirs(0), 1);
        Check.edge(35, "the last one alone", days.heirs(1), 2048);
        EvenOars first = Tapes.boat("pay 11 on 7;" + "pay 1 on 7;".repeat(11));
        Check.edge(35, "the first one alone", first.heirs(0), 1);
        Check.edge(35, "all but the first one", first.heirs(1), 4094);
        EvenOars none = Tapes.boat("pay 5 on 0;pay 3 on 0;pay 2 on 0;");
        Check.edge(35, "all days 0", none.heirs(1), 6);
    }

    // Promise 36: NOTHING when there are none such, or PAYMENT 0 is among them.
    private static void apartNone() {
        EvenOars oars = Tapes.boat("pay 10 on 1;pay 20 on 2;pay 40 on 3;");
        for (int bits : new int[] {8, 10, 16, 1 << 12, 1 << 30, LARGEST - 1, LARGEST, -1, -2, -8, SMALLEST, SMALLEST | 2}) {
            Check.edge(36, "none such: " + bits, oars.apart(bits, false), NOTHING);
            Check.edge(36, "none such, days: " + bits, oars.apart(bits, true), NOTHING);
        }
        for (int bits : new int[] {1, 3, 5, 7}) {
            Check.edge(36, "PAYMENT 0 is among them: " + bits, oars.apart(bits, false), NOTHING);
            Check.edge(36, "PAYMENT 0 is among them, days: " + bits, oars.apart(bits, true), NOTHING);
        }
        Check.edge(36, "without PAYMENTS", new EvenOars().apart(0, false), NOTHING);
        Check.edge(36, "without PAYMENTS, days", new EvenOars().apart(0, true), NOTHING);
        EvenOars full = Tapes.boat("pay 1 on 1;".repeat(12));
        Check.edge(36, "none such of twelve", full.apart(4096, false), NOTHING);
        Check.edge(36, "all but PAYMENT 0 of twelve", full.apart(4094, false), 1 - 11);
    }

    // Promise 36: none and all the other's; below 0; the greatest.
    private static void apartLeastAndMost() {
        EvenOars oars = Tapes.boat("pay 10 on 1;pay 20 on 2;pay 40 on 3;");
        Check.edge(36, "none the other's", oars.apart(0, false), 70);
        Check.edge(36, "none the other's, days", oars.apart(0, true), 170);
        Check.edge(36, "all but PAYMENT 0 the other's", oars.apart(6, false), -50);
        Check.edge(36, "all but PAYMENT 0 the other's, days", oars.apart(6, true), -150);
        Check.edge(36, "one PAYMENT", Tapes.boat("pay 7 on 0;").apart(0, false), 7);
        Check.edge(36, "one PAYMENT, days", Tapes.boat("pay 7 on 0;").apart(0, true), 0);
        Check.edge(36, "alike is 0", Tapes.boat("pay 7 on 3;pay 7 on 3;").apart(2, true), 0);
        EvenOars great = Tapes.boat("pay 999 on 999;".repeat(12));
        Check.edge(36, "the greatest", great.apart(0, true), 12L * 999 * 999);
        Check.edge(36, "the least", great.apart(4094, true), -10L * 999 * 999);
    }
}

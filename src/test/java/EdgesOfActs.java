/** Boundary cases of promises 16 to 21: acts, and undoing them. */
final class EdgesOfActs {
    private static final int NONE = EvenOars.NONE;
    private static final long NOTHING = EvenOars.NOTHING;
    private static final int LARGEST = Integer.MAX_VALUE;
    private static final int SMALLEST = Integer.MIN_VALUE;
    private static final String BOAT = "seat 1 arm 1;seat 2 arm 1;seat 3 arm 1;seat 4 arm 1;rower a strength 5 tires 0;"
            + "rower b strength 6 tires 0;fix 1 left;fix 4 right;";

    private EdgesOfActs() {
    }

    static void run() {
        turnFirstAndLast();
        turnRefused();
        swapOneAndNone();
        swapRefused();
        strokeLeastAndMost();
        strokeLast();
        strokeRefused();
        rowLeastAndMost();
        rowLast();
        rowNotBelowZero();
        rowFull();
        rowRefused();
        undoNone();
        undoThirtyAlone();
        undoAround();
        undoEachKind();
        seedLeastAndMost();
        seedRefused();
    }

    /** A boat on which something has been done already. */
    private static EvenOars underWay() {
        EvenOars oars = Tapes.boat(BOAT);
        oars.seed(5);
        oars.turn(1);
        oars.swap(0, 1);
        oars.row(7);
        oars.image();
        return oars;
    }

    /** At STROKE 9999 or somewhat before it. */
    private static EvenOars nearTheEnd(String boat, int strokesLeft) {
        EvenOars oars = Tapes.boat(boat);
        for (int k = 0; k < 49; k++) {
            oars.stroke(200);
        }
        if (strokesLeft < 199) {
            oars.stroke(199 - strokesLeft);
        }
        Check.same("near the end", oars.boat(8), 9999 - strokesLeft);
        return oars;
    }

    // Promise 16: the first and the last SEAT, there and back.
    private static void turnFirstAndLast() {
        EvenOars oars = Tapes.boat("seat 1 arm 1;seat 2 arm 1;seat 3 arm 1;");
        Check.edge(16, "the first SEAT, without a ROWER", oars.turn(0), true);
        Check.edge(16, "to the right", oars.seat(0, 3), 1);
        Check.edge(16, "the first SEAT once more", oars.turn(0), true);
        Check.edge(16, "to the left", oars.seat(0, 3), 0);
        Check.edge(16, "the last SEAT", oars.turn(2), true);
        Check.edge(16, "an ACT each", oars.boat(9), 3);
        Check.edge(16, "refused none", oars.status(2), 0);
        Check.edge(16, "not LAWFUL, but no reason to refuse", Tapes.boat("seat 1 arm 1;each 1;").turn(0), true);
    }

    // Promise 16: refused (2), when there is none such, or it is fixed.
    private static void turnRefused() {
        for (int s : new int[] {-1, 4, 11, 12, 31, 32, 33, 65, LARGEST, SMALLEST}) {
            Look.refused(16, "no such SEAT: " + s, 2, underWay(), oars -> !oars.turn(s));
        }
        Look.refused(16, "fixed to the left", 2, underWay(), oars -> !oars.turn(0));
        Look.refused(16, "fixed to the right", 2, underWay(), oars -> !oars.turn(3));
        Look.refused(16, "no SEATS", 2, new EvenOars(), oars -> !oars.turn(0));
    }

    // Promise 17: ROWERS of two SEATS, or one and none; fixed SEATS, too.
    private static void swapOneAndNone() {
        EvenOars oars = Tapes.boat(BOAT);
        Check.edge(17, "two ROWERS", oars.swap(0, 1), true);
        Check.edge(17, "two ROWERS", oars.seat(0, 2) == 1 && oars.seat(1, 2) == 0, true);
        Check.edge(17, "one and none, the first and the last SEAT, both fixed", oars.swap(0, 3), true);
        Check.edge(17, "one and none", oars.seat(0, 2) == NONE && oars.seat(3, 2) == 1, true);
        Check.edge(17, "none and one", oars.swap(0, 1), true);
        Check.edge(17, "none and one", oars.seat(0, 2) == 0 && oars.seat(1, 2) == NONE, true);
        Check.edge(17, "the greater SEAT first", oars.swap(3, 2), true);
        Check.edge(17, "the greater SEAT first", oars.seat(2, 2) == 1 && oars.seat(3, 2) == NONE, true);
        Check.edge(17, "an ACT each", oars.boat(9), 4);
        Check.edge(17, "the sides stay", oars.seat(0, 3) == 0 && oars.seat(2, 3) == 0 && oars.seat(3, 3) == 1, true);
    }

    // Promise 17: refused (2), when there are no two such, or no ROWER sits in either.
    private static void swapRefused() {
        for (int s : new int[] {-1, 4, 12, 32, LARGEST, SMALLEST}) {
            Look.refused(17, "no such SEAT first: " + s, 2, underWay(), oars -> !oars.swap(s, 0));
            Look.refused(17, "no such SEAT second: " + s, 2, underWay(), oars -> !oars.swap(0, s));
            Look.refused(17, "no such SEATS: " + s, 2, underWay(), oars -> !oars.swap(s, s));
        }
        Look.refused(17, "no two: the same SEAT", 2, underWay(), oars -> !oars.swap(1, 1));
        Look.refused(17, "no two: the same SEAT without a ROWER", 2, underWay(), oars -> !oars.swap(2, 2));
        Look.refused(17, "no ROWER in either", 2, underWay(), oars -> !oars.swap(2, 3));
        Look.refused(17, "no SEATS", 2, new EvenOars(), oars -> !oars.swap(0, 1));
    }

    // Promise 18: 1 .. 200.
    private static void strokeLeastAndMost() {
        EvenOars oars = new EvenOars();
        Check.edge(18, "the least", oars.stroke(1), 1);
        Check.edge(18, "the most", oars.stroke(200), 201);
        Check.edge(18, "an ACT each", oars.boat(9), 2);
        Check.edge(18, "refused none", oars.status(2), 0);
    }

    // Promise 18: not beyond 9999.
    private static void strokeLast() {
        Check.edge(18, "just 9999, by the most", nearTheEnd("", 199).stroke(199), 9999);
        EvenOars oars = nearTheEnd("", 199);
        Check.edge(18, "just beyond 9999: 10000", oars.stroke(200), NONE);
        Check.edge(18, "beyond 9999: the STROKE stays", oars.boat(8), 9800);
        Check.edge(18, "beyond 9999: refused (2)", oars.status(2), 1);
        oars = nearTheEnd("", 1);
        Check.edge(18, "beyond 9999 by 1", oars.stroke(2), NONE);
        Check.edge(18, "9999", oars.stroke(1), 9999);
        Check.edge(18, "none behind 9999", oars.stroke(1), NONE);
        Check.edge(18, "none behind 9999", oars.stroke(200), NONE);
        Check.edge(18, "refused (2)", oars.status(2), 3);
        Check.edge(18, "undone from 9999", oars.undo(), true);
        Check.edge(18, "9999 once more", oars.stroke(1), 9999);
    }

    // Promise 18: refused (2), when it can't be.
    private static void strokeRefused() {
        for (int n : new int[] {0, -1, -200, 201, 9992, 9993, LARGEST, LARGEST - 6, SMALLEST}) {
            Look.refused(18, "can't be: " + n, 2, underWay(), oars -> oars.stroke(n) == NONE);
        }
    }

    // Promise 19: 1 .. 200, also without ROWERS.
    private static void rowLeastAndMost() {
        EvenOars oars = new EvenOars();
        Check.edge(19, "the least, no SEATS", oars.row(1), 0);
        Check.edge(19, "the most, no SEATS", oars.row(200), 0);
        Check.edge(19, "STROKE", oars.boat(8), 201);
        Check.edge(19, "an ACT each", oars.boat(9), 2);
        EvenOars empty = Tapes.boat("seat 1 arm 1;seat 2 arm 1;rower a strength 50 tires 0;");
        EvenOars alone = Tapes.boat("seat 1 arm 1;rower a strength 50 tires 0;");
        Check.edge(19, "no DRAW of a SEAT without a ROWER", empty.row(200), alone.row(200));
    }

    // Promise 19: not beyond 9999, as stroke().
    private static void rowLast() {
        EvenOars oars = nearTheEnd("", 199);
        Check.edge(19, "just beyond 9999", oars.row(200), NOTHING);
        Check.edge(19, "refused (2)", oars.status(2), 1);
        Check.edge(19, "just 9999", oars.row(199), 0);
        Check.edge(19, "9999", oars.boat(8), 9999);
        Check.edge(19, "none behind 9999", oars.row(1), NOTHING);
        Check.edge(19, "9999", oars.boat(8), 9999);
        Check.edge(19, "refused (2)", oars.status(2), 2);
    }

    // Promise 19 (Terms III): 0 at least; STROKE is one more first.
    private static void rowNotBelowZero() {
        EvenOars oars = Tapes.boat("seat 1 arm 1;fix 1 right;rower a strength 1 tires 9;");
        oars.stroke(10);
        long x = 1;
        long heading = 0;
        for (int k = 0; k < 50; k++) {
            x = (1103515245L * x + 12345) % 2147483648L;
            long less = x / 64 % 3 - 1;
            long former = heading;
            heading += less > 0 ? 1 : 0;
            Check.edge(19, "no STRENGTH and a DRAW less 1 of " + less, oars.row(1) - former, heading - former);
        }
        EvenOars first = Tapes.boat("seat 1 arm 1;fix 1 right;rower a strength 9 tires 9;");
        first.stroke(8);
        first.seed(12345);
        x = (1103515245L * 12345 + 12345) % 2147483648L;
        Check.edge(19, "STROKE 9 is not tired yet", first.row(1), 9 + x / 64 % 3 - 1);
        first.undo();
        first.stroke(1);
        first.seed(12345);
        Check.edge(19, "STROKE 10 is", first.row(1), Math.max(0, x / 64 % 3 - 1));
    }

    // Promise 19 (Terms III): 12 SEATS of the greatest places, arms and strengths, 200 STROKES, SEAT by SEAT.
    private static void rowFull() {
        EvenOars oars = Tapes.boat(EdgesOfBoat.greatest("left"));
        oars.seed(LARGEST);
        long x = LARGEST;
        long heading = 0;
        for (int k = 0; k < 200; k++) {
            for (int s = 0; s < 12; s++) {
                x = (1103515245L * x + 12345) % 2147483648L;
                heading -= (99 + x / 64 % 3 - 1) * 99 * (99 - s);
            }
        }
        Check.edge(19, "full", oars.row(200), heading);
        Check.edge(19, "full: HEADING is more than 31 bits can hold", heading < SMALLEST, true);
    }

    // Promise 19: NOTHING, refused (2), when it can't be; no DRAW then.
    private static void rowRefused() {
        for (int n : new int[] {0, -1, -200, 201, 9992, 9993, LARGEST, LARGEST - 6, SMALLEST}) {
            EvenOars one = underWay();
            Look.refused(19, "can't be: " + n, 2, one, oars -> oars.row(n) == NOTHING);
            Check.edge(19, "can't be, so no DRAW: " + n, one.row(100), underWay().row(100));
        }
    }

    // Promise 20: refused (3), when none can be.
    private static void undoNone() {
        Look.refused(20, "none: a new object", 3, new EvenOars(), oars -> !oars.undo());
        EvenOars other = new EvenOars();
        other.turn(0);
        other.seed(3);
        other.image();
        Look.refused(20, "none: what was refused, the seed, an image are no ACTS", 3, other, oars -> !oars.undo());
        EvenOars told = underWay();
        Tapes.text(told, BOAT);
        Look.refused(20, "none: behind a BOAT", 3, told, oars -> !oars.undo());
        EvenOars undone = Tapes.boat(BOAT);
        undone.turn(1);
        undone.undo();
        Look.refused(20, "none: that one is undone already", 3, undone, oars -> !oars.undo());
        EvenOars taken = underWay();
        Check.edge(20, "none: behind an image", Tapes.on(taken, Tapes.image(taken)), true);
        Look.refused(20, "none: behind an image", 3, taken, oars -> !oars.undo());
    }

    // Promise 20 (Terms II): the last 30 can be undone.
    private static void undoThirtyAlone() {
        EvenOars full = new EvenOars();
        for (int k = 1; k <= 30; k++) {
            full.stroke(k);
            Check.edge(20, "not full yet", full.boat(9), k);
        }
        for (int k = 30; k >= 1; k--) {
            Check.edge(20, "full: each of 30", full.undo(), true);
            Check.edge(20, "full: each of 30", full.boat(8), k * (k - 1) / 2);
        }
        Check.edge(20, "full: no more than 30", full.undo(), false);
        EvenOars over = new EvenOars();
        for (int k = 1; k <= 31; k++) {
            over.stroke(k);
        }
        Check.edge(20, "31: 30 stay", over.boat(9), 30);
        for (int k = 0; k < 30; k++) {
            over.undo();
        }
        Check.edge(20, "31: the first one is not undone", over.undo(), false);
        Check.edge(20, "31: the first one is not undone", over.boat(8), 1);
        Check.edge(20, "refused (3)", over.status(3), 1);
    }

    // Promise 20: around and around: 30 kept, some undone, others done.
    private static void undoAround() {
        EvenOars oars = new EvenOars();
        int[] strokes = new int[200];
        int done = 0;
        int kept = 0;
        int at = 0;
        for (int round = 0; round < 6; round++) {
            for (int k = 0; k < 17 + round; k++) {
                strokes[done] = 1 + (7 * round + k) % 11;
                at += strokes[done];
                Check.edge(20, "around: done", oars.stroke(strokes[done]), at);
                done++;
                kept = Math.min(30, kept + 1);
            }
            for (int k = 0; k < 3 * round + 1; k++) {
                done--;
                kept--;
                at -= strokes[done];
                Check.edge(20, "around: undone", oars.undo(), true);
                Check.edge(20, "around: undone", oars.boat(8), at);
                Check.edge(20, "around: kept", oars.boat(9), kept);
            }
        }
        while (kept > 0) {
            kept--;
            done--;
            at -= strokes[done];
            oars.undo();
        }
        Check.edge(20, "around: the last that is kept", oars.boat(8), at);
        Check.edge(20, "around: none is left", oars.undo(), false);
        Check.edge(20, "around: some were before", at > 0, true);
    }

    // Promise 20: each kind of ACT; the seed stays.
    private static void undoEachKind() {
        undone("a turn", oars -> oars.turn(2));
        undone("a swap of two ROWERS", oars -> oars.swap(1, 0));
        undone("a swap with none", oars -> oars.swap(3, 0));
        undone("a swap with none, the other way round", oars -> oars.swap(0, 3));
        undone("a swap with none, next to each other", oars -> oars.swap(1, 2));
        undone("the least STROKES", oars -> oars.stroke(1) == 8);
        undone("the most STROKES", oars -> oars.stroke(200) == 207);
        undone("ROWED", oars -> oars.row(200) != NOTHING);
        EvenOars oars = underWay();
        long former = oars.heading();
        long first = oars.row(200) - former;
        oars.undo();
        long second = oars.row(200) - former;
        Check.edge(20, "the seed stays: other DRAWS", first == second, false);
        EvenOars whole = underWay();
        whole.row(200);
        Check.edge(20, "the seed stays as DRAWS left it", whole.row(200) - former - first, second);
    }

    private static void undone(String which, Look.Call act) {
        EvenOars oars = underWay();
        String before = Look.at(oars);
        Check.edge(20, which + " is done", act.on(oars), true);
        Check.edge(20, which + " is seen", Look.at(oars).equals(before), false);
        Check.edge(20, which + " is undone", oars.undo(), true);
        Check.edge(20, which + " is undone", Look.at(oars).equals(before), true);
        Check.edge(20, which + " alone is undone", oars.boat(9), 3);
    }

    // Promise 21: 0 and the greatest are seeds.
    private static void seedLeastAndMost() {
        for (int seed : new int[] {0, 1, 64, LARGEST - 1, LARGEST}) {
            EvenOars oars = Tapes.boat("seat 1 arm 1;fix 1 right;rower a strength 50 tires 0;");
            Check.edge(21, "a seed: " + seed, oars.seed(seed), true);
            long x = seed;
            long heading = 0;
            for (int k = 0; k < 60; k++) {
                x = (1103515245L * x + 12345) % 2147483648L;
                heading += 50 + x / 64 % 3 - 1;
            }
            Check.edge(21, "its DRAWS: " + seed, oars.row(60), heading);
            Check.edge(21, "no ACT", oars.boat(9), 1);
            Check.edge(21, "refused none", oars.status(4), 0);
        }
    }

    // Promise 21: refused (4), when it is below 0; the former one stays.
    private static void seedRefused() {
        for (int seed : new int[] {-1, -4711, SMALLEST}) {
            EvenOars one = underWay();
            Look.refused(21, "below 0: " + seed, 4, one, oars -> !oars.seed(seed));
            Check.edge(21, "refused, the former one stays: " + seed, one.row(60), underWay().row(60));
        }
    }
}

/** Each promise by itself: ordinary inputs, the edges that the document names, and wrong inputs. */
public final class PromiseTests {
    private static final int NONE = EvenOars.NONE;
    private static final long NOTHING = EvenOars.NOTHING;
    private static final int LARGE = Integer.MAX_VALUE;
    private static final int SMALL = Integer.MIN_VALUE;
    /** Four seats with alike oars, two more rowers than seats. */
    private static final String FOUR = "seat 1 arm 2;seat 2 arm 2;seat 3 arm 2;seat 4 arm 2;"
            + "rower ann strength 9 tires 1;rower bo strength 8 tires 2;rower cy strength 7 tires 0;"
            + "rower dee strength 6 tires 9;rower extra strength 5 tires 0;rower foxfox strength 99 tires 9;";

    private PromiseTests() {
    }

    public static void main(String[] args) {
        newObject();
        feedAndEnd();
        text();
        boat();
        letter();
        seat();
        rower();
        want();
        swing();
        offGoodLawful();
        turn();
        swap();
        stroke();
        row();
        undo();
        seed();
        ways();
        made();
        doubled();
        still();
        nearest();
        seated();
        changes();
        race();
        stillest();
        under();
        fits();
        strengths();
        crooked();
        heirs();
        apart();
        ask();
        image();
        on();
        status();
        anyArguments();
        Check.done("PromiseTests");
    }

    // Promise 1.
    private static void newObject() {
        EvenOars oars = new EvenOars();
        int[] boat = {0, 0, NONE, 0, 0, 0, 0, 0, 0, 0, 0};
        for (int what = 0; what < boat.length; what++) {
            Check.same("a new boat " + what, oars.boat(what), boat[what]);
        }
        Check.same("no fault yet", oars.fault(0), 0);
        Check.same("no fault yet", oars.fault(1), NONE);
        Check.same("no image yet", oars.octet(0), NONE);
        EvenOars one = Tapes.boat(FOUR);
        EvenOars other = Tapes.boat(FOUR);
        other.seed(1);
        Check.same("the seed is 1", one.row(30), other.row(30));
        other = Tapes.boat(FOUR);
        other.seed(2);
        Check.that("another seed rows otherwise", one.heading() != other.row(30));
    }

    // Promises 2 and 3.
    private static void feedAndEnd() {
        EvenOars oars = new EvenOars();
        Check.that("nothing is cut from nothing", oars.end(0));
        Check.that("not so many", !oars.end(1));
        Check.that("below 0", !oars.end(-1));
        for (int k = 1; k <= 80; k++) {
            Check.same("feed", oars.feed(k, LARGE, SMALL, -1, 0), 20 * k);
        }
        Check.same("refused so far", oars.status(0), 2);
        Check.same("1620 are too many", oars.feed(0, 0, 0, 0, 0), NONE);
        Check.same("refused", oars.status(0), 3);
        Check.that("1600 stay", oars.end(1600));
        Check.that("not 1601", !oars.end(1601));
        Check.that("1581 stay", oars.end(1581));
        Check.same("1601 are too many", oars.feed(0, 0, 0, 0, 0), NONE);
        Check.that("1580 stay", oars.end(1580));
        Check.same("1600 are not", oars.feed(0, 0, 0, 0, 0), 1600);
        Check.same("refused", oars.status(0), 5);
        oars.end(0);
        // "near 12;" with the highest byte of each number first.
        oars.feed(0x6e656172, 0x2031323b, 0x3f3f3f3f, 0x3f3f3f3f, 0x3f3f3f3f);
        oars.end(8);
        Check.same("bytes in their order", oars.text(), 1);
        Check.same("near", oars.boat(5), 12);
        oars.feed(0xffffffff, -1, -1, -1, -1);
        Check.same("bytes above 127", oars.text(), NONE);
        Check.same("are no blanks", oars.fault(1), 0);
    }

    // Promise 4; its faults stand in FaultTests.
    private static void text() {
        EvenOars oars = new EvenOars();
        oars.seed(77);
        Check.same("statements", Tapes.text(oars, FOUR + "near 4;near 5;"), 12);
        Check.same("the last near counts", oars.boat(5), 5);
        oars.turn(0);
        oars.swap(0, 1);
        oars.stroke(5);
        Check.same("the same text once more", Tapes.text(oars, FOUR), 10);
        Check.same("without a near", oars.boat(5), 0);
        Check.same("STROKE", oars.boat(8), 0);
        Check.same("no acts", oars.boat(9), 0);
        Check.that("nothing to undo", !oars.undo());
        Check.same("rowers as at first", oars.seat(0, 2), 0);
        Check.same("sides as at first", oars.seat(0, 3), 0);
        EvenOars other = Tapes.boat(FOUR);
        other.seed(77);
        Check.same("the seed stays", oars.row(50), other.row(50));
        Check.same("an empty text", Tapes.text(oars, ""), 0);
        Check.same("HEADING", oars.heading(), 0);
        Check.same("the tape went", oars.text(), 0);
        Tapes.boat("seat 9 arm 1;fix 9 right;fix 9 left;");
        EvenOars last = Tapes.boat("each 3;each 2;want 1 is 4;want 1 is -5;seat 9 arm 1;fix 9 right;fix 9 left;");
        Check.same("the last each", last.boat(2), 2);
        Check.same("the last want", last.want(1), -5);
        Check.same("one want", last.boat(4), 1);
        Check.same("one fixed seat", last.boat(3), 1);
        Check.same("the last fix", last.seat(0, 3), 0);
        last = Tapes.boat("seat 9 arm 1;fix 9 left;fix 9 right;");
        Check.same("the last fix", last.seat(0, 3), 1);
    }

    // Promise 6; promise 5 stands in FaultTests.
    private static void boat() {
        EvenOars oars = Tapes.boat(FOUR + "seat 7 arm 1;each 4;fix 2 left;fix 1 right;want 0 is 0;want 3 is 1;near 8;"
                + "run lrxlr power 0 swung 0;pay 1 on 0;pay 2 on 0;pay 3 on 0;");
        int[] boat = {5, 6, 4, 2, 2, 8, 1, 3, 0, 0, 3, NONE, NONE};
        for (int what = 0; what < boat.length; what++) {
            Check.same("boat " + what, oars.boat(what), boat[what]);
        }
        Check.same("no such", oars.boat(-1), NONE);
        oars.turn(2);
        oars.stroke(7);
        Check.same("STROKE", oars.boat(8), 7);
        Check.same("ACTS", oars.boat(9), 2);
        Check.same("to the left", oars.boat(10), 2);
    }

    // Promise 7.
    private static void letter() {
        EvenOars oars = Tapes.boat(FOUR + "rower az strength 1 tires 0;");
        int[] foxfox = {6, 15, 24, 6, 15, 24};
        int[] az = {1, 26, 0, 0, 0, 0};
        for (int k = 0; k < 6; k++) {
            Check.same("letter", oars.letter(5, k), foxfox[k]);
            Check.same("letter", oars.letter(6, k), az[k]);
            Check.same("no such rower", oars.letter(7, k), NONE);
            Check.same("no such rower", oars.letter(-1, k), NONE);
        }
        Check.same("no such letter", oars.letter(0, 6), NONE);
        Check.same("no such letter", oars.letter(0, -1), NONE);
    }

    // Promise 8.
    private static void seat() {
        EvenOars oars = Tapes.boat("seat 5 arm 3;seat 2 arm 1;seat 9 arm 4;rower a strength 7 tires 2;"
                + "rower b strength 4 tires 0;fix 9 right;fix 2 right;");
        int[][] seats = {{5, 3, 0, 0, 0, 21}, {2, 1, 1, 1, 1, 4}, {9, 4, NONE, 1, 1, 0}};
        for (int s = 0; s < 3; s++) {
            for (int what = 0; what < 6; what++) {
                Check.same("seat " + s + " " + what, oars.seat(s, what), seats[s][what]);
            }
            Check.same("no such", oars.seat(s, 6), NONE);
            Check.same("no such", oars.seat(s, -1), NONE);
        }
        Check.same("no such seat", oars.seat(3, 0), NONE);
        Check.same("no such seat", oars.seat(-1, 0), NONE);
        oars.stroke(10);
        Check.same("the PULL now", oars.seat(0, 5), 15);
        oars.turn(0);
        Check.same("to the right", oars.seat(0, 3), 1);
        Check.same("the PULL is without sides", oars.seat(0, 5), 15);
    }

    // Promise 9.
    private static void rower() {
        EvenOars oars = Tapes.boat(FOUR);
        int[][] rowers = {{9, 1, 9, 0}, {8, 2, 8, 1}, {7, 0, 7, 2}, {6, 9, 6, 3}, {5, 0, 5, NONE}, {99, 9, 99, NONE}};
        for (int r = 0; r < 6; r++) {
            for (int what = 0; what < 4; what++) {
                Check.same("rower " + r + " " + what, oars.rower(r, what), rowers[r][what]);
            }
            Check.same("no such", oars.rower(r, 4), NONE);
            Check.same("no such", oars.rower(r, -1), NONE);
        }
        Check.same("no such rower", oars.rower(6, 0), NONE);
        Check.same("no such rower", oars.rower(-1, 0), NONE);
        oars.stroke(9);
        Check.same("STRENGTH until stroke 9", oars.rower(1, 2), 8);
        oars.stroke(1);
        Check.same("STRENGTH from stroke 10", oars.rower(1, 2), 6);
        Check.same("0 at least", oars.rower(3, 2), 0);
        Check.same("as told", oars.rower(3, 0), 6);
        oars.swap(0, 3);
        Check.same("his seat", oars.rower(3, 3), 0);
    }

    // Promise 10.
    private static void want() {
        EvenOars oars = Tapes.boat("want 0 is 0;want 3 is - 9999;");
        long[] wants = {0, NOTHING, NOTHING, -9999, NOTHING};
        for (int p = 0; p < wants.length; p++) {
            Check.same("want " + p, oars.want(p), wants[p]);
        }
        Check.same("no such power", oars.want(-1), NOTHING);
    }

    // Promise 11.
    private static void swing() {
        EvenOars oars = Tapes.boat(FOUR);
        Check.same("SWING of power 0", oars.swing(0, 0), -18 + 16 - 14 + 12);
        Check.same("SWING of power 1", oars.swing(1, 0), -18 + 2 * 16 - 3 * 14 + 4 * 12);
        Check.same("SWING of power 2", oars.swing(2, 0), -18 + 4 * 16 - 9 * 14 + 16 * 12);
        Check.same("SWING of power 3", oars.swing(3, 0), -18 + 8 * 16 - 27 * 14 + 64 * 12);
        Check.same("at stroke 10", oars.swing(0, 10), -16 + 12 - 14);
        Check.same("at stroke 9999", oars.swing(0, 9999), -14);
        Check.same("at stroke 10000", oars.swing(0, 10000), NOTHING);
        Check.same("at stroke -1", oars.swing(0, -1), NOTHING);
        Check.same("of power 4", oars.swing(4, 0), NOTHING);
        Check.same("of power -1", oars.swing(-1, 0), NOTHING);
        EvenOars large = Tapes.boat("seat 99 arm 99;rower a strength 99 tires 0;");
        Check.same("a large one", large.swing(3, 0), -99L * 99 * 99 * 99 * 99);
    }

    // Promises 12, 13 and 14; 15 stands with row().
    private static void offGoodLawful() {
        EvenOars oars = Tapes.boat(FOUR + "want 0 is 1;want 1 is 10;near 10;each 2;");
        Check.same("OFF", oars.off(), 5 + 10);
        Check.same("GOOD: each is near", oars.good(), 1);
        Check.same("LAWFUL", oars.lawful(), 1);
        oars.turn(2);
        Check.same("OFF", oars.off(), Math.abs(24 - 1) + Math.abs(104 - 10));
        Check.same("not GOOD", oars.good(), 0);
        Check.same("not LAWFUL", oars.lawful(), 0);
        oars.undo();
        oars.stroke(10);
        Check.same("OFF now", oars.off(), Math.abs(-18 - 1) + Math.abs(-34 - 10));
        EvenOars near = Tapes.boat(FOUR + "want 0 is 1;want 1 is 10;near 9;");
        Check.same("one is not near", near.good(), 0);
        EvenOars free = Tapes.boat(FOUR);
        Check.same("OFF without WANTS", free.off(), 0);
        Check.same("GOOD without WANTS", free.good(), 1);
        Check.same("LAWFUL without each", free.lawful(), 1);
        EvenOars more = Tapes.boat("each 1;");
        Check.same("not LAWFUL without SEATS", more.lawful(), 0);
        EvenOars fixed = Tapes.boat(FOUR + "fix 1 right;fix 3 right;each 0;");
        Check.same("in turn, but fixed ones", fixed.lawful(), 1);
        Check.same("none to the left", fixed.boat(10), 0);
    }

    // Promise 16.
    private static void turn() {
        EvenOars oars = Tapes.boat(FOUR + "fix 2 left;");
        Check.that("turns", oars.turn(0));
        Check.same("to the right", oars.seat(0, 3), 1);
        Check.that("turns back", oars.turn(0));
        Check.same("to the left", oars.seat(0, 3), 0);
        Check.that("a fixed one", !oars.turn(1));
        Check.that("none such", !oars.turn(4));
        Check.that("none such", !oars.turn(-1));
        Check.same("refused", oars.status(2), 3);
        Check.same("acts", oars.boat(9), 2);
    }

    // Promise 17.
    private static void swap() {
        EvenOars oars = Tapes.boat("seat 1 arm 1;seat 2 arm 1;seat 3 arm 1;seat 4 arm 1;"
                + "rower a strength 1 tires 0;rower b strength 2 tires 0;fix 1 left;");
        Check.that("two rowers, one seat fixed", oars.swap(1, 0));
        Check.same("rower", oars.seat(0, 2), 1);
        Check.same("rower", oars.seat(1, 2), 0);
        Check.that("one and none", oars.swap(0, 3));
        Check.same("rower", oars.seat(0, 2), NONE);
        Check.same("rower", oars.seat(3, 2), 1);
        Check.that("none and one", oars.swap(2, 1));
        Check.same("rower", oars.seat(2, 2), 0);
        Check.that("no rower", !oars.swap(0, 1));
        Check.that("the same seat", !oars.swap(2, 2));
        Check.that("none such", !oars.swap(2, 4));
        Check.that("none such", !oars.swap(4, 2));
        Check.that("none such", !oars.swap(-1, 2));
        Check.that("none such", !oars.swap(2, -1));
        Check.same("refused", oars.status(2), 6);
        Check.same("acts", oars.boat(9), 3);
    }

    // Promise 18.
    private static void stroke() {
        EvenOars oars = new EvenOars();
        Check.same("one", oars.stroke(1), 1);
        Check.same("0", oars.stroke(0), NONE);
        Check.same("-1", oars.stroke(-1), NONE);
        Check.same("201", oars.stroke(201), NONE);
        Check.same("the largest", oars.stroke(LARGE), NONE);
        for (int k = 0; k < 49; k++) {
            oars.stroke(200);
        }
        Check.same("so far", oars.boat(8), 9801);
        Check.same("beyond 9999", oars.stroke(199), NONE);
        Check.same("9999", oars.stroke(198), 9999);
        Check.same("beyond 9999", oars.stroke(1), NONE);
        Check.same("beyond 9999", oars.row(1), NOTHING);
        Check.same("stays", oars.boat(8), 9999);
        Check.same("refused", oars.status(2), 7);
    }

    // Promises 15 and 19.
    private static void row() {
        EvenOars oars = Tapes.boat("seat 3 arm 2;seat 9 arm 5;seat 4 arm 7;rower a strength 2 tires 1;"
                + "rower b strength 1 tires 1;");
        oars.seed(5);
        oars.swap(1, 2);
        oars.stroke(8);
        long x = 5;
        long heading = 0;
        for (int at = 9; at <= 38; at++) {
            x = (1103515245L * x + 12345) % 2147483648L;
            heading -= Math.max(0, Math.max(0, 2 - at / 10) + x / 64 % 3 - 1) * 2 * 3;
            x = (1103515245L * x + 12345) % 2147483648L;
            heading -= Math.max(0, Math.max(0, 1 - at / 10) + x / 64 % 3 - 1) * 7 * 4;
        }
        Check.same("ROWED", oars.row(30), heading);
        Check.same("HEADING", oars.heading(), heading);
        Check.same("STROKE", oars.boat(8), 38);
        Check.same("an ACT", oars.boat(9), 3);
        Check.same("0", oars.row(0), NOTHING);
        Check.same("201", oars.row(201), NOTHING);
        Check.same("-1", oars.row(-1), NOTHING);
        Check.same("refused", oars.status(2), 3);
        Check.same("HEADING stays", oars.heading(), heading);
        Check.same("strokes alone head nowhere", oars.stroke(3), 41);
        Check.same("HEADING stays", oars.heading(), heading);
        Check.that("undone", oars.undo() && oars.undo());
        Check.same("HEADING is undone", oars.heading(), 0);
        Check.same("STROKE is undone", oars.boat(8), 8);
    }

    // Promise 20.
    private static void undo() {
        EvenOars oars = Tapes.boat(FOUR);
        Check.that("nothing yet", !oars.undo());
        oars.turn(0);
        oars.turn(9);
        oars.swap(0, 1);
        oars.row(20);
        long first = oars.heading();
        oars.undo();
        Check.same("HEADING undone", oars.heading(), 0);
        Check.that("the seed stays", oars.row(20) != first);
        oars.undo();
        Check.that("a swap", oars.undo());
        Check.same("rower", oars.seat(0, 2), 0);
        Check.that("a turn", oars.undo());
        Check.same("side", oars.seat(0, 3), 0);
        Check.that("no more", !oars.undo());
        Check.same("refused", oars.status(3), 2);
        for (int k = 1; k <= 35; k++) {
            oars.stroke(k);
        }
        Check.same("30 at most", oars.boat(9), 30);
        for (int k = 35; k > 5; k--) {
            Check.same("STROKE", oars.boat(8), k * (k + 1) / 2);
            Check.that("undone", oars.undo());
        }
        Check.that("no 31st", !oars.undo());
        Check.same("STROKE", oars.boat(8), 15);
    }

    // Promise 21.
    private static void seed() {
        EvenOars oars = Tapes.boat(FOUR);
        Check.that("0", oars.seed(0));
        long heading = oars.row(40);
        oars.undo();
        Check.that("0 again", oars.seed(0));
        Check.same("the same draws", oars.row(40), heading);
        oars.undo();
        Check.that("the largest", oars.seed(LARGE));
        Check.that("below 0", !oars.seed(-1));
        Check.that("far below 0", !oars.seed(SMALL));
        Check.same("refused", oars.status(4), 2);
        EvenOars other = Tapes.boat(FOUR);
        other.seed(LARGE);
        Check.same("a refused seed changes nothing", oars.row(40), other.row(40));
        Check.same("seeds are no acts", oars.boat(9), 1);
    }

    // Promise 22.
    private static void ways() {
        EvenOars oars = new EvenOars();
        for (int n = 1; n <= 20; n++) {
            long count = 0;
            for (int bits = 0; bits < 1 << n; bits++) {
                count += isWay(n, bits) ? 1 : 0;
            }
            Check.same("ways " + n, oars.ways(n), count);
        }
        Check.same("ways 38", oars.ways(38), 0);
        Check.same("ways 40", oars.ways(40), waysBySums(40));
        Check.same("ways 36", oars.ways(36), waysBySums(36));
        for (int n : new int[] {0, -1, 41, LARGE, SMALL}) {
            Check.same("ways " + n, oars.ways(n), NONE);
        }
    }

    private static boolean isWay(int n, int bits) {
        int sum = 0;
        for (int i = 0; i < n; i++) {
            sum += (bits >> i & 1) == 1 ? i + 1 : -(i + 1);
        }
        return sum == 0 && 2 * Integer.bitCount(bits) == n;
    }

    private static long waysBySums(int n) {
        long[][][] sets = new long[n + 1][n + 1][n * (n + 1) / 2 + 1];
        sets[0][0][0] = 1;
        for (int place = 1; place <= n; place++) {
            for (int count = 0; count <= place; count++) {
                for (int sum = 0; sum < sets[0][0].length; sum++) {
                    sets[place][count][sum] = sets[place - 1][count][sum]
                            + (count > 0 && sum >= place ? sets[place - 1][count - 1][sum - place] : 0);
                }
            }
        }
        return sets[n][n / 2][n * (n + 1) / 4];
    }

    // Promise 23.
    private static void made() {
        EvenOars oars = new EvenOars();
        for (int n = 1; n <= 16; n++) {
            int k = 0;
            for (int bits = 0; bits < 1 << n; bits++) {
                if (isWay(n, bits)) {
                    // Of 16 seats there are more ways than calls that an object may be asked.
                    oars = k % 400 == 0 ? new EvenOars() : oars;
                    Check.same("made " + n + " " + k, oars.made(n, k), bits);
                    k++;
                }
            }
            Check.same("made " + n + " " + k, oars.made(n, k), NONE);
            Check.same("made " + n + " -1", oars.made(n, -1), NONE);
            Check.same("made " + n + " the largest", oars.made(n, LARGE), NONE);
        }
        for (int n : new int[] {0, -4, 17, 20, LARGE, SMALL}) {
            Check.same("made " + n, oars.made(n, 0), NONE);
        }
    }

    // Promise 24.
    private static void doubled() {
        EvenOars oars = new EvenOars();
        for (int k = 1; k <= 10; k++) {
            for (int p = 0; p <= 5; p++) {
                long sum = 0;
                for (int i = 0; i < 1 << k; i++) {
                    long sign = Integer.toBinaryString(i).replace("0", "").length() % 2 == 1 ? 1 : -1;
                    sum += sign * SlowOars.pow(i + 1, p);
                }
                Check.same("doubled " + k + " " + p, oars.doubled(k, p), sum);
                Check.that("0 below power k", p >= k || sum == 0);
            }
        }
        int[][] others = {{0, 0}, {11, 0}, {-1, 0}, {1, 6}, {1, -1}, {LARGE, 1}, {1, LARGE}, {SMALL, SMALL}};
        for (int[] other : others) {
            Check.same("doubled " + other[0] + " " + other[1], oars.doubled(other[0], other[1]), NOTHING);
        }
    }

    // Promise 25.
    private static void still() {
        EvenOars oars = new EvenOars();
        int doubledFour = 0;
        for (int i = 0; i < 16; i++) {
            doubledFour |= Integer.bitCount(i) % 2 << i;
        }
        Check.same("doubled four times", oars.still(16, doubledFour), 3);
        Check.same("the other way around", oars.still(16, 65535 - doubledFour), 3);
        Check.same("power 0 alone", oars.still(4, 3), 0);
        Check.same("powers 0 and 1", oars.still(4, 9), 1);
        Check.same("not even 0", oars.still(3, 3), NONE);
        Check.same("one seat", oars.still(1, 1), NONE);
        for (int bits = 0; bits < 1 << 8; bits++) {
            int due = NONE;
            for (int p = 0; p <= 5 && due == p - 1; p++) {
                long sum = 0;
                for (int i = 0; i < 8; i++) {
                    sum += ((bits >> i & 1) == 1 ? 1 : -1) * SlowOars.pow(i + 1, p);
                }
                due = sum == 0 ? p : due;
            }
            Check.same("still 8 " + bits, oars.still(8, bits), due);
        }
        int[][] others = {{0, 0}, {17, 0}, {-1, 0}, {4, 16}, {4, -1}, {2, 5}, {4, 25}, {4, -7}, {16, 65536}, {4, LARGE}, {LARGE, 0}, {4, SMALL}};
        for (int[] other : others) {
            Check.same("still " + other[0] + " " + other[1], oars.still(other[0], other[1]), NONE);
        }
    }

    // Promise 26; more in AgainstSlowTests, as of the searches that follow.
    private static void nearest() {
        EvenOars oars = Tapes.boat("seat 1 arm 1;seat 2 arm 1;seat 3 arm 1;rower a strength 1 tires 0;"
                + "rower b strength 1 tires 0;rower c strength 1 tires 0;want 1 is 0;near 2;");
        Check.same("OFF", oars.nearest(0), 0);
        Check.same("the least bits", oars.nearest(1), 3);
        Check.same("GOOD ones", oars.nearest(2), 4);
        Check.same("others", oars.nearest(3), NONE);
        Check.same("others", oars.nearest(-1), NONE);
        EvenOars none = Tapes.boat("seat 1 arm 1;each 2;");
        for (int what = 0; what < 3; what++) {
            Check.same("without LAWFUL sides", none.nearest(what), NONE);
        }
        EvenOars fixed = Tapes.boat("seat 1 arm 1;seat 2 arm 1;fix 1 right;each 1;");
        Check.same("bits", fixed.nearest(1), 1);
        Check.same("one", fixed.nearest(2), 1);
    }

    // Promise 27.
    private static void seated() {
        EvenOars oars = Tapes.boat("seat 1 arm 1;seat 2 arm 1;rower a strength 1 tires 0;rower b strength 2 tires 0;"
                + "want 1 is 0;");
        Check.same("OFF", oars.seated(NONE), 0);
        Check.same("rower", oars.seated(0), 1);
        Check.same("rower", oars.seated(1), 0);
        Check.same("bits", oars.seated(20), 1);
        for (int k : new int[] {-2, 2, 5, 19, 21, LARGE, SMALL}) {
            Check.same("others", oars.seated(k), NONE);
        }
        oars.swap(0, 1);
        Check.same("the same order, however they sit", oars.seated(0), 1);
        Check.same("unlike numbers", Tapes.boat(FOUR).seated(NONE), NONE);
        Check.same("too few rowers", Tapes.boat("seat 1 arm 1;").seated(NONE), NONE);
        StringBuilder many = new StringBuilder();
        for (int s = 1; s <= 6; s++) {
            Check.same(s + " seats", Tapes.boat(many.toString()).seated(20), 0);
            many.append("seat ").append(s).append(" arm 1;rower r").append("x".repeat(s - 1));
            many.append(" strength 1 tires 0;");
        }
        Check.same("six", Tapes.boat(many.toString()).seated(NONE), NONE);
        Check.same("without LAWFUL sides", Tapes.boat("each 1;").seated(NONE), NONE);
    }

    // Promise 28.
    private static void changes() {
        String boat = "seat 1 arm 1;seat 2 arm 1;seat 3 arm 1;seat 4 arm 1;seat 5 arm 1;seat 6 arm 1;seat 7 arm 1;"
                + "seat 8 arm 1;rower a strength 1 tires 0;rower b strength 2 tires 0;rower c strength 4 tires 0;"
                + "rower d strength 8 tires 0;";
        Check.same("good and lawful", Tapes.boat(boat).changes(), 0);
        Check.same("one turn", Tapes.boat(boat + "each 3;").changes(), 1);
        Check.same("three turns", Tapes.boat(boat + "each 7;").changes(), 3);
        Check.same("four turns", Tapes.boat(boat + "each 8;").changes(), NONE);
        Check.same("a swap", Tapes.boat(boat + "each 4;want 0 is -3;").changes(), 1);
        Check.same("two swaps with empty seats", Tapes.boat(boat + "each 4;want 0 is -15;").changes(), 2);
        Check.same("fixed seats", Tapes.boat(boat + "each 3;fix 1 left;fix 3 left;fix 5 left;fix 7 left;").changes(), NONE);
        EvenOars oars = Tapes.boat(boat + "want 0 is 0;");
        oars.stroke(1);
        Check.same("never: the sum is odd", oars.changes(), NONE);
        Check.same("no act is left behind", oars.boat(9), 1);
        Check.same("no rower has moved", oars.seat(0, 2), 0);
        oars = Tapes.boat("seat 1 arm 1;seat 2 arm 2;seat 3 arm 3;seat 4 arm 4;seat 5 arm 5;seat 6 arm 6;"
                + "rower a strength 1 tires 0;rower b strength 2 tires 0;rower c strength 4 tires 0;"
                + "rower d strength 8 tires 0;rower e strength 16 tires 0;rower f strength 32 tires 0;"
                + "fix 1 left;fix 2 left;fix 3 left;fix 4 left;fix 5 left;fix 6 left;want 0 is -120;");
        Check.same("three swaps: from 321 to 120", oars.changes(), 3);
    }

    // Promise 29.
    private static void race() {
        EvenOars oars = Tapes.boat("seat 3 arm 2;seat 1 arm 1;rower a strength 5 tires 1;rower b strength 20 tires 2;");
        Check.same("one stroke", oars.race(1), 10);
        Check.same("until stroke 9", oars.race(9), 10);
        Check.same("until stroke 300", oars.race(300), 10);
        oars.stroke(9);
        Check.same("stroke 10", oars.race(1), 6);
        Check.same("until stroke 20", oars.race(11), 6);
        oars = Tapes.boat("seat 3 arm 2;seat 1 arm 1;rower a strength 5 tires 1;rower b strength 30 tires 0;");
        Check.same("until stroke 9", oars.race(9), 0);
        Check.same("stroke 10 too", oars.race(10), 6);
        Check.same("until stroke 49", oars.race(49), 24);
        Check.same("stroke 50 too", oars.race(50), 30);
        for (int n : new int[] {0, -1, 301, LARGE, SMALL}) {
            Check.same("race " + n, oars.race(n), NONE);
        }
    }

    // Promise 30.
    private static void stillest() {
        EvenOars oars = Tapes.boat("seat 3 arm 2;seat 1 arm 1;rower a strength 5 tires 1;rower b strength 20 tires 2;");
        Check.same("GREATEST", oars.stillest(9, 0), 10);
        Check.same("the least bits", oars.stillest(9, 1), 1);
        oars.turn(0);
        Check.same("however they row", oars.stillest(9, 1), 1);
        Check.same("others", oars.stillest(9, 2), NONE);
        Check.same("others", oars.stillest(9, -1), NONE);
        for (int n : new int[] {0, -1, 301, LARGE, SMALL}) {
            Check.same("stillest " + n, oars.stillest(n, 0), NONE);
        }
        Check.same("300", oars.stillest(300, 0), 10);
        Check.same("without LAWFUL sides", Tapes.boat("each 1;").stillest(1, 0), NONE);
        Check.same("fixed", Tapes.boat("seat 1 arm 1;fix 1 right;").stillest(1, 1), 1);
    }

    // Promise 31.
    private static void under() {
        EvenOars oars = Tapes.boat("seat 1 arm 1;seat 2 arm 1;seat 5 arm 1;rower a strength 5 tires 0;"
                + "rower b strength 30 tires 1;");
        oars.stroke(4);
        // As they sit the swing is 60 - 5, less each ten; with 0 and 1 changed 10 - 30.
        Check.same("GREATEST", oars.under(20, 0), 20);
        Check.same("from which STROKE on", oars.under(20, 1), 5);
        Check.same("a seat", oars.under(20, 2), 0);
        Check.same("the other one", oars.under(20, 3), 1);
        Check.same("others", oars.under(20, 4), NONE);
        Check.same("others", oars.under(20, -1), NONE);
        for (int n : new int[] {0, -1, 101, LARGE, SMALL}) {
            Check.same("under " + n, oars.under(n, 0), NONE);
        }
        Check.same("one seat", Tapes.boat("seat 1 arm 1;rower a strength 1 tires 0;").under(1, 0), NONE);
        EvenOars empty = Tapes.boat("seat 1 arm 1;seat 2 arm 1;");
        Check.same("no rowers", empty.under(100, 0), 0);
        Check.same("no rowers", empty.under(100, 1), 1);
        EvenOars later = Tapes.boat("seat 4 arm 1;seat 1 arm 1;rower a strength 10 tires 2;rower b strength 40 tires 0;");
        Check.same("as they sit", later.race(50), 40);
        Check.same("a change makes it worse", later.under(50, 0), 160);
        Check.same("so it comes first", later.under(50, 1), 1);
        EvenOars best = Tapes.boat("seat 1 arm 1;seat 2 arm 1;rower a strength 20 tires 9;rower b strength 10 tires 0;");
        // As they sit 0, 9, 18, 20 in the tens; changed 30, 12, 6, 10.
        Check.same("under way", best.under(30, 0), 10);
        Check.same("from stroke 20 on", best.under(30, 1), 20);
        Check.same("there is a change in any case", best.under(19, 0), 12);
        Check.same("of strokes 10 to 19 the first", best.under(19, 1), 10);
    }

    // Promise 32.
    private static void fits() {
        String boat = "seat 2 arm 3;seat 5 arm 1;rower a strength 4 tires 9;rower b strength 7 tires 0;";
        EvenOars oars = Tapes.boat(boat + "run lr power 0 swung -5;run rx power 1 swung 24;run rr power 1 swung 60;");
        Check.same("the third one", oars.fits(), 2);
        oars.stroke(50);
        oars.swap(0, 1);
        oars.turn(0);
        Check.same("as they sat at first", oars.fits(), 2);
        Check.same("near", Tapes.boat(boat + "near 1;run rr power 1 swung 60;run rr power 1 swung 58;").fits(), NONE);
        Check.same("not near", Tapes.boat(boat + "near 1;run rr power 1 swung 61;").fits(), 0);
        Check.same("without RUNS", Tapes.boat(boat).fits(), NONE);
        EvenOars behind = Tapes.boat("seat 2 arm 3;rower a strength 4 tires 9;run r power 0 swung 12;seat 5 arm 1;"
                + "rower b strength 7 tires 0;run rx power 0 swung 12;");
        Check.same("seats told behind do not row", behind.fits(), NONE);
        Check.same("an empty seat", Tapes.boat("seat 2 arm 3;run r power 2 swung 0;").fits(), NONE);
    }

    // Promise 33.
    private static void strengths() {
        String boat = "seat 2 arm 3;seat 5 arm 1;rower a strength 40 tires 9;rower b strength 70 tires 0;"
                + "rower c strength 1 tires 0;";
        EvenOars oars = Tapes.boat(boat + "run rr power 0 swung 20;");
        // 3 a + b is 20: (4, 8), (5, 5), (6, 2); c does as he likes.
        int[][] told = {{27, 4, 6}, {27, 2, 8}, {27, 1, 9}};
        for (int r = 0; r < 3; r++) {
            for (int what = 0; what < 3; what++) {
                Check.same("strengths " + r + " " + what, oars.strengths(r, what), told[r][what]);
            }
            Check.same("others", oars.strengths(r, 3), NONE);
            Check.same("others", oars.strengths(r, -1), NONE);
        }
        Check.same("none such", oars.strengths(3, 0), NONE);
        Check.same("none such", oars.strengths(-1, 0), NONE);
        Check.same("a new text tells anew", Tapes.text(oars, boat + "run rr power 0 swung 21;run lr power 0 swung -15;"), 7);
        Check.same("one row and c", oars.strengths(0, 0), 9);
        Check.same("a", oars.strengths(0, 1), 6);
        Check.same("b", oars.strengths(1, 2), 3);
        EvenOars none = Tapes.boat(boat + "run rr power 0 swung 99;");
        Check.same("no rows", none.strengths(0, 0), 0);
        Check.same("no rows", none.strengths(0, 1), NONE);
        Check.same("no rows", none.strengths(0, 2), NONE);
        Check.same("six", Tapes.boat(FOUR).strengths(5, 0), 531441);
        Check.same("seven", Tapes.boat(FOUR + "rower g strength 1 tires 0;").strengths(0, 0), NONE);
    }

    // Promise 34.
    private static void crooked() {
        String boat = "seat 2 arm 3;seat 5 arm 1;rower a strength 4 tires 9;rower b strength 8 tires 0;";
        Check.same("the first one", Tapes.boat(boat + "run rr power 0 swung 40;").crooked(), 1);
        Check.same("either", Tapes.boat(boat + "run rr power 0 swung 28;").crooked(), 3);
        Check.same("all FIT as it is", Tapes.boat(boat + "run rr power 0 swung 20;").crooked(), 0);
        Check.same("without RUNS", Tapes.boat(boat).crooked(), 0);
        Check.same("an arm of 0", Tapes.boat(boat + "run lx power 0 swung 0;").crooked(), 0);
        Check.same("an arm of 99", Tapes.boat(boat + "run lx power 0 swung -396;").crooked(), 1);
        Check.same("an arm of 100", Tapes.boat(boat + "run lx power 0 swung -400;").crooked(), 0);
        Check.same("near", Tapes.boat(boat + "near 4;run lx power 0 swung -400;").crooked(), 1);
        Check.same("two crooked ones", Tapes.boat(boat + "run lx power 0 swung -8;run xr power 0 swung 16;").crooked(), 0);
        Check.same("an empty seat", Tapes.boat("seat 1 arm 1;run r power 0 swung 1;").crooked(), 0);
    }

    // Promise 35.
    private static void heirs() {
        EvenOars oars = Tapes.boat("pay 10 on 1;pay 10 on 2;pay 10 on 3;pay 10 on 4;");
        Check.same("one way", oars.heirs(0), 1);
        Check.same("bits", oars.heirs(1), 6);
        Check.same("others", oars.heirs(2), NONE);
        Check.same("others", oars.heirs(-1), NONE);
        EvenOars alike = Tapes.boat("pay 3 on 5;".repeat(4));
        Check.same("three ways", alike.heirs(0), 3);
        Check.same("the least bits", alike.heirs(1), 6);
        EvenOars none = Tapes.boat("pay 3 on 0;");
        Check.same("no way", none.heirs(0), 0);
        Check.same("no bits", none.heirs(1), NONE);
        EvenOars days = Tapes.boat("pay 3 on 1;pay 3 on 2;");
        Check.same("days are unlike", days.heirs(0), 0);
        Check.same("without PAYMENTS", new EvenOars().heirs(0), NONE);
        Check.same("without PAYMENTS", new EvenOars().heirs(1), NONE);
        Check.same("twelve", Tapes.boat("pay 999 on 999;".repeat(12)).heirs(0), 462);
    }

    // Promise 36.
    private static void apart() {
        EvenOars oars = Tapes.boat("pay 10 on 1;pay 20 on 2;pay 999 on 999;");
        Check.same("all to the first", oars.apart(0, false), 1029);
        Check.same("days", oars.apart(0, true), 10 + 40 + 998001);
        Check.same("the other's", oars.apart(4, false), 30 - 999);
        Check.same("days", oars.apart(4, true), 50 - 998001);
        Check.same("both the other's", oars.apart(6, false), 10 - 1019);
        for (int bits : new int[] {1, 3, 7, 8, 10, -1, -2, LARGE, SMALL}) {
            Check.same("none such", oars.apart(bits, false), NOTHING);
            Check.same("none such", oars.apart(bits, true), NOTHING);
        }
        Check.same("without PAYMENTS", new EvenOars().apart(0, true), NOTHING);
    }

    // Promise 37; more in QuestionTests.
    private static void ask() {
        EvenOars oars = Tapes.boat(FOUR);
        Check.same("first", Tapes.ask(oars, "first force 1 < 5"), 20);
        Check.same("last", Tapes.ask(oars, "last force 1 > 0"), 39);
        Check.same("often", Tapes.ask(oars, "often force 1 = 4"), 10);
        Check.same("none", Tapes.ask(oars, "first force 1 > 8"), NONE);
        Check.same("none", Tapes.ask(oars, "last force 1 > 8"), NONE);
        Check.same("none", Tapes.ask(oars, "often force 1 > 8"), 0);
        Check.same("total", Tapes.ask(oars, "total force 0"), 10 * (9 + 8 + 7 + 6 + 5 + 4 + 3 + 2 + 1));
        Check.same("most", Tapes.ask(oars, "most force 5"), 99);
        Check.same("least", Tapes.ask(oars, "least force 5"), 9);
        Check.same("asks change nothing", oars.boat(8), 0);
        oars.stroke(25);
        Check.same("from STROKE on", Tapes.ask(oars, "first force 1 < 5"), 25);
        oars.end(0);
        Check.same("no text", oars.ask(), NOTHING);
        Check.same("a FAULT", oars.fault(0), 1);
        Check.same("no refusal of a text", oars.status(1), 0);
    }

    // Promises 38 and 39.
    private static void image() {
        EvenOars oars = Tapes.boat(FOUR + "seat 5 arm 1;fix 3 right;seat 6 arm 1;seat 7 arm 1;");
        oars.stroke(200);
        oars.stroke(100);
        oars.swap(0, 6);
        int[] octets = {1, 44, 0, 0, 0, 0, 0, 0, 0, 0, 0, 0, 2, 1, 3, 1, 4, 1, 5, 0, 6, 1, 1, 0, 0};
        octets = Tapes.sealed(octets);
        Check.same("bytes", oars.image(), 25);
        for (int k = 0; k < octets.length; k++) {
            Check.same("byte " + k, oars.octet(k), octets[k]);
        }
        for (int k : new int[] {-1, 25, 26, LARGE, SMALL}) {
            Check.same("byte " + k, oars.octet(k), NONE);
        }
        oars.turn(0);
        Check.same("the image stays", oars.octet(11), 0);
        oars.image();
        Check.same("the latest image", oars.octet(11), 1);
        EvenOars back = Tapes.boat("seat 9 arm 9;rower a strength 9 tires 0;");
        long heading = back.row(100);
        Check.that("HEADING is below 0", heading < 0);
        back.image();
        long told = 0;
        for (int k = 2; k < 10; k++) {
            told = told << 8 | back.octet(k);
        }
        Check.same("its bytes", told, heading);
        Tapes.text(back, "");
        Check.same("the image stays", back.octet(12), back.octet(12));
        Check.same("a shorter image", back.image(), 11);
        Check.same("is the latest", back.octet(11), NONE);
    }

    // Promise 40.
    private static void on() {
        EvenOars oars = Tapes.boat("seat 5 arm 3;seat 2 arm 1;seat 9 arm 4;rower a strength 7 tires 9;"
                + "rower b strength 4 tires 0;fix 9 left;");
        oars.turn(0);
        int[] base = {39, 15, 255, 255, 255, 255, 255, 255, 255, 254, 0, 1, 1, 0, 2, 0, 0};
        Check.that("an image", Tapes.on(oars, Tapes.sealed(base)));
        Check.same("STROKE", oars.boat(8), 9999);
        Check.same("HEADING", oars.heading(), -2);
        Check.same("rower", oars.seat(0, 2), NONE);
        Check.same("rower", oars.seat(1, 2), 0);
        Check.same("rower", oars.seat(2, 2), 1);
        Check.same("side", oars.seat(0, 3), 1);
        Check.same("side", oars.seat(1, 3), 0);
        Check.same("nothing can be undone", oars.boat(9), 0);
        oars.swap(0, 1);
        int[][] wrong = {
            {0, 39, 1, 16}, {10, 1}, {10, 2}, {12, 0}, {12, 2}, {12, 4}, {12, 3}, {14, 255}, {15, 1}, {11, 2}, {13, 255},
            {0, 40}, {0, 255}, {14, 0, 10, 3},
        };
        int refused = 0;
        for (int[] change : wrong) {
            int[] spoiled = base.clone();
            for (int k = 0; k < change.length; k += 2) {
                spoiled[change[k]] = change[k + 1];
            }
            Check.that("none such", !Tapes.on(oars, Tapes.sealed(spoiled)));
            refused++;
            Check.same("refused", oars.status(5), refused);
            Check.same("STROKE stays", oars.boat(8), 9999);
            Check.same("rowers stay", oars.seat(0, 2), 0);
            Check.same("acts stay", oars.boat(9), 1);
        }
        int[] unsealed = Tapes.sealed(base);
        unsealed[16] = (unsealed[16] + 1) % 251;
        Check.that("the last byte", !Tapes.on(oars, unsealed));
        unsealed[16] = 255;
        Check.that("the last byte", !Tapes.on(oars, unsealed));
        Check.that("too short", !Tapes.on(oars, java.util.Arrays.copyOf(Tapes.sealed(base), 16)));
        Check.that("too long", !Tapes.on(oars, java.util.Arrays.copyOf(Tapes.sealed(base), 18)));
        Check.that("nothing", !Tapes.on(oars, new int[0]));
        Check.same("the tape went", oars.feed(0, 0, 0, 0, 0), 20);
        oars.end(0);
        Check.that("its own image", Tapes.on(oars, Tapes.image(oars)));
        Check.same("nothing can be undone", oars.boat(9), 0);
        Check.that("an image of no boat", Tapes.on(new EvenOars(), Tapes.sealed(new int[11])));
        EvenOars more = Tapes.boat("seat 1 arm 1;rower a strength 1 tires 0;rower b strength 2 tires 0;");
        int[] other = {0, 0, 0, 0, 0, 0, 0, 0, 0, 0, 2, 0, 0};
        Check.that("a rower who did not sit at first", Tapes.on(more, Tapes.sealed(other)));
        Check.same("sits now", more.seat(0, 2), 1);
        Check.same("and the other one not", more.rower(0, 3), NONE);
    }

    // Promise 41.
    private static void status() {
        EvenOars oars = new EvenOars();
        for (int what = 0; what < 6; what++) {
            Check.same("status " + what, oars.status(what), 0);
        }
        oars.end(5);
        oars.end(-5);
        Tapes.text(oars, "?");
        oars.turn(0);
        oars.swap(0, 0);
        oars.stroke(0);
        oars.row(0);
        for (int k = 0; k < 5; k++) {
            oars.undo();
        }
        for (int k = 0; k < 3; k++) {
            oars.seed(-1);
        }
        for (int k = 0; k < 6; k++) {
            oars.on();
        }
        int[] due = {2, 1, 4, 5, 3, 6};
        for (int what = 0; what < 6; what++) {
            Check.same("status " + what, oars.status(what), due[what]);
        }
        Tapes.text(oars, FOUR);
        Check.same("a text leaves them", oars.status(2), 4);
        for (int what : new int[] {-1, 6, LARGE, SMALL}) {
            Check.same("status " + what, oars.status(what), NONE);
        }
    }

    /** No arguments, in any state, make a call fail. */
    private static void anyArguments() {
        int[] numbers = {SMALL, -100, -2, -1, 0, 1, 2, 3, 5, 11, 12, 13, 20, 40, 99, 300, 9999, 65536, LARGE};
        String[] boats = {"", FOUR, "seat 1 arm 1;each 12;", "rower a strength 1 tires 0;pay 1 on 1;"};
        for (String text : boats) {
            for (int a : numbers) {
                EvenOars oars = Tapes.boat(text);
                oars.end(a);
                oars.fault(a);
                oars.boat(a);
                oars.want(a);
                oars.turn(a);
                oars.stroke(a);
                oars.row(a);
                oars.seed(a);
                oars.ways(a);
                oars.nearest(a);
                oars.seated(a);
                oars.race(a);
                oars.heirs(a);
                oars.octet(a);
                oars.status(a);
                for (int b : numbers) {
                    oars.letter(a, b);
                    oars.seat(a, b);
                    oars.rower(a, b);
                    oars.swing(a, b);
                    oars.swap(a, b);
                    oars.made(a, b);
                    oars.doubled(a, b);
                    oars.still(a, b);
                    oars.stillest(a, b);
                    oars.under(a, b);
                    oars.strengths(a, b);
                    oars.apart(a, (b & 1) == 0);
                }
                Check.same("still answers", oars.boat(5), 0);
            }
        }
    }
}

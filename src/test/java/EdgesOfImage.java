/** Boundary cases of promises 38 to 41: images, and what was refused. */
final class EdgesOfImage {
    private static final int NONE = EvenOars.NONE;
    private static final int LARGEST = Integer.MAX_VALUE;
    private static final int SMALLEST = Integer.MIN_VALUE;
    private static final String BOAT = "seat 5 arm 3;seat 2 arm 1;seat 9 arm 4;seat 7 arm 4;rower a strength 7 tires 9;"
            + "rower b strength 4 tires 0;fix 9 left;fix 7 right;";
    /** STROKE 3, HEADING 0, ROWERS 0 and 1 in SEATS 0 and 1, sides as at first; the last byte is to be set. */
    private static final int[] PLAIN = {0, 3, 0, 0, 0, 0, 0, 0, 0, 0, 1, 0, 2, 1, 0, 0, 0, 1, 0};

    private EdgesOfImage() {
    }

    static void run() {
        imageEmptyAndFull();
        imageOfStrokesAndHeadings();
        imageOfSeats();
        octetNone();
        octetOfTheLatest();
        onEmptyAndFull();
        onStrokes();
        onHeadings();
        onRowers();
        onSides();
        onLengthAndLastByte();
        onNothingUndone();
        statusOfOthers();
        statusCountsEach();
        statusCountsNoOthers();
    }

    private static void bytes(String which, EvenOars oars, int... due) {
        int[] sealed = Tapes.sealed(due);
        Check.edge(38, which + ", how many", oars.image(), due.length);
        for (int k = 0; k < due.length; k++) {
            Check.edge(39, which + ", byte " + k, oars.octet(k), sealed[k]);
        }
        Check.edge(39, which + ", none behind", oars.octet(due.length), NONE);
    }

    // Promise 38: no SEATS, 12 SEATS.
    private static void imageEmptyAndFull() {
        bytes("a new object", new EvenOars(), 0, 0, 0, 0, 0, 0, 0, 0, 0, 0, 0);
        int[] due = new int[35];
        for (int s = 0; s < 12; s++) {
            due[10 + 2 * s] = s + 1;
            due[11 + 2 * s] = 1;
        }
        bytes("full: 12 SEATS", Tapes.boat(EdgesOfBoat.greatest("right")), due);
    }

    // Promise 38 (Terms IV): STROKE in two bytes, HEADING in eight.
    private static void imageOfStrokesAndHeadings() {
        int[][] strokes = {{0, 255}, {1, 0}, {1, 1}, {39, 14}, {39, 15}};
        long[] headings = {-1, Long.MIN_VALUE, Long.MAX_VALUE, -256, 0x0123_4567_89ab_cdefL};
        for (int k = 0; k < 5; k++) {
            int[] image = new int[11];
            image[0] = strokes[k][0];
            image[1] = strokes[k][1];
            for (int i = 0; i < 8; i++) {
                image[2 + i] = (int) (headings[k] >> (56 - 8 * i)) & 255;
            }
            EvenOars oars = new EvenOars();
            Check.edge(40, "HEADING " + headings[k], Tapes.on(oars, Tapes.sealed(image)), true);
            Check.edge(15, "HEADING " + headings[k], oars.heading(), headings[k]);
            Check.edge(40, "STROKE " + k, oars.boat(8), 256 * strokes[k][0] + strokes[k][1]);
            bytes("STROKE and HEADING " + k, oars, image);
        }
        EvenOars rowed = Tapes.boat("seat 1 arm 1;rower a strength 1 tires 0;");
        rowed.stroke(200);
        rowed.stroke(55);
        bytes("STROKE 255", rowed, 0, 255, 0, 0, 0, 0, 0, 0, 0, 0, 1, 0, 0);
        rowed.stroke(1);
        bytes("STROKE 256", rowed, 1, 0, 0, 0, 0, 0, 0, 0, 0, 0, 1, 0, 0);
    }

    // Promise 38 (Terms IV): its ROWER and 1 (0 none), 1 if it rows to the right, else 0.
    private static void imageOfSeats() {
        EvenOars oars = Tapes.boat(BOAT);
        bytes("at first", oars, 0, 0, 0, 0, 0, 0, 0, 0, 0, 0, 1, 0, 2, 1, 0, 0, 0, 1, 0);
        oars.swap(0, 3);
        oars.turn(0);
        bytes("without a ROWER in the first SEAT", oars, 0, 0, 0, 0, 0, 0, 0, 0, 0, 0, 0, 1, 2, 1, 0, 0, 1, 1, 0);
    }

    // Promise 39: NONE when there is none such: ahead of any image, below 0, behind the last byte.
    private static void octetNone() {
        EvenOars oars = new EvenOars();
        for (int k : new int[] {0, 1, 10, -1, LARGEST, SMALLEST}) {
            Check.edge(39, "ahead of any image: " + k, oars.octet(k), NONE);
        }
        oars.image();
        Check.edge(39, "the first byte", oars.octet(0), 0);
        for (int k : new int[] {-1, 11, 12, 34, 35, LARGEST, SMALLEST}) {
            Check.edge(39, "none such: " + k, oars.octet(k), NONE);
        }
    }

    // Promise 39: of the latest image(), whatever has come since.
    private static void octetOfTheLatest() {
        EvenOars oars = Tapes.boat(BOAT);
        oars.image();
        oars.turn(0);
        oars.stroke(9);
        Check.edge(39, "acts since", oars.octet(1) == 0 && oars.octet(11) == 0, true);
        Tapes.text(oars, "?");
        Tapes.text(oars, "");
        Check.edge(39, "another BOAT since", oars.octet(17), 1);
        Check.edge(39, "another BOAT since", oars.octet(19), NONE);
        Tapes.on(oars, Tapes.sealed(new int[] {0, 5, 0, 0, 0, 0, 0, 0, 0, 0, 0}));
        Check.edge(39, "on() since", oars.octet(1), 0);
        Check.edge(39, "a shorter image", oars.image(), 11);
        Check.edge(39, "the latest image", oars.octet(1), 5);
        Check.edge(39, "behind the latest image", oars.octet(11), NONE);
        Tapes.text(oars, BOAT);
        Check.edge(39, "a longer image", oars.image(), 19);
        Check.edge(39, "the latest image", oars.octet(17), 1);
    }

    /** A tape that is no image of the boat: refused (5), all stays, the tape goes. */
    private static void noImage(String which, String boat, int... octets) {
        EvenOars oars = Tapes.boat(boat);
        if (oars.boat(0) > 1) {
            oars.turn(1);
            oars.swap(0, 1);
        }
        oars.row(20);
        oars.image();
        Tapes.put(oars, octets);
        Look.refused(40, which, 5, oars, taking -> !taking.on());
        Check.edge(40, which + ": the tape goes", oars.feed(0, 0, 0, 0, 0), 20);
    }

    private static EvenOars taken(String which, String boat, int... octets) {
        EvenOars oars = Tapes.boat(boat);
        Check.edge(40, which, Tapes.on(oars, Tapes.sealed(octets)), true);
        Check.edge(40, which + ": the tape goes", oars.feed(0, 0, 0, 0, 0), 20);
        Check.edge(40, which + ": refused none", oars.status(5), 0);
        return oars;
    }

    /** The plain image with other bytes: pairs of where and what. */
    private static int[] plain(int... changes) {
        int[] octets = PLAIN.clone();
        for (int k = 0; k < changes.length; k += 2) {
            octets[changes[k]] = changes[k + 1];
        }
        return Tapes.sealed(octets);
    }

    // Promise 40: an empty tape; no SEATS; 12 SEATS.
    private static void onEmptyAndFull() {
        noImage("an empty tape", BOAT);
        noImage("an empty tape, no SEATS", "");
        taken("no SEATS", "", 0, 0, 0, 0, 0, 0, 0, 0, 0, 0, 0);
        int[] full = new int[35];
        for (int s = 0; s < 12; s++) {
            full[10 + 2 * s] = 12 - s;
            full[11 + 2 * s] = 1;
        }
        EvenOars oars = taken("full: 12 SEATS", EdgesOfBoat.greatest("right"), full);
        Check.edge(40, "full: the first SEAT", oars.seat(0, 2), 11);
        Check.edge(40, "full: the last SEAT", oars.seat(11, 2), 0);
        full[10] = 11;
        noImage("full: one ROWER twice", EdgesOfBoat.greatest("right"), Tapes.sealed(full));
        full[10] = 13;
        noImage("full: no such ROWER", EdgesOfBoat.greatest("right"), Tapes.sealed(full));
    }

    // Promise 40: STROKE 9999 at most.
    private static void onStrokes() {
        Check.edge(40, "STROKE 0", taken("STROKE 0", BOAT, plain(1, 0)).boat(8), 0);
        EvenOars last = taken("STROKE 9999", BOAT, plain(0, 39, 1, 15));
        Check.edge(40, "STROKE 9999", last.boat(8), 9999);
        Check.edge(40, "none behind 9999", last.stroke(1), NONE);
        noImage("STROKE 10000", BOAT, plain(0, 39, 1, 16));
        noImage("STROKE 10239", BOAT, plain(0, 39, 1, 255));
        noImage("STROKE 10240", BOAT, plain(0, 40, 1, 0));
        noImage("STROKE 32768", BOAT, plain(0, 128, 1, 0));
        noImage("STROKE 65535", BOAT, plain(0, 255, 1, 255));
    }

    // Promise 40: HEADING is as it tells, whatever it is.
    private static void onHeadings() {
        EvenOars oars = taken("HEADING -1", BOAT, plain(2, 255, 3, 255, 4, 255, 5, 255, 6, 255, 7, 255, 8, 255, 9, 255));
        Check.edge(40, "HEADING -1", oars.heading(), -1);
        Check.edge(40, "rowed on from it", oars.row(1) == -1 + rowedOnce(), true);
    }

    private static long rowedOnce() {
        EvenOars oars = Tapes.boat(BOAT);
        oars.stroke(3);
        return oars.row(1);
    }

    // Promise 40: as many ROWERS as sit at first, each that there is once at most.
    private static void onRowers() {
        EvenOars other = taken("in other SEATS", BOAT, plain(10, 0, 14, 1));
        Check.edge(40, "in other SEATS", other.seat(0, 2), NONE);
        Check.edge(40, "in other SEATS", other.rower(0, 3), 2);
        noImage("one too few", BOAT, plain(10, 0));
        noImage("none at all", BOAT, plain(10, 0, 12, 0));
        noImage("one too many", BOAT, plain(14, 3));
        noImage("one twice", BOAT, plain(10, 2));
        noImage("one twice, too many", BOAT, plain(14, 2));
        noImage("no such ROWER: the next one", BOAT, plain(12, 3));
        noImage("no such ROWER: 12", BOAT, plain(12, 13));
        noImage("no such ROWER: 32 more", BOAT, plain(12, 34));
        noImage("no such ROWER: 254", BOAT, plain(12, 255));
        String more = "seat 1 arm 1;rower a strength 1 tires 0;rower b strength 2 tires 0;";
        EvenOars instead = taken("one who did not sit at first", more, 0, 0, 0, 0, 0, 0, 0, 0, 0, 0, 2, 0, 0);
        Check.edge(40, "one who did not sit at first", instead.seat(0, 2), 1);
        Check.edge(40, "he who sat at first", instead.rower(0, 3), NONE);
        noImage("none of more", more, Tapes.sealed(new int[] {0, 0, 0, 0, 0, 0, 0, 0, 0, 0, 0, 0, 0}));
        taken("none, as at first", "seat 1 arm 1;", 0, 0, 0, 0, 0, 0, 0, 0, 0, 0, 0, 1, 0);
        noImage("no ROWERS", "seat 1 arm 1;", Tapes.sealed(new int[] {0, 0, 0, 0, 0, 0, 0, 0, 0, 0, 1, 0, 0}));
    }

    // Promise 40: sides 0 and 1 alone; fixed SEATS as they are to be.
    private static void onSides() {
        EvenOars oars = taken("the other sides", BOAT, plain(11, 1, 13, 0));
        Check.edge(40, "the other sides", oars.seat(0, 3) == 1 && oars.seat(1, 3) == 0, true);
        for (int side : new int[] {2, 128, 255}) {
            noImage("no side: " + side, BOAT, plain(11, side));
            noImage("no side of a fixed SEAT: " + side, BOAT, plain(17, side));
        }
        noImage("fixed to the left, not so", BOAT, plain(15, 1));
        noImage("fixed to the right, not so", BOAT, plain(17, 0));
        Check.edge(40, "not LAWFUL, as each is told", taken("any number to the left", BOAT + "each 4;", plain()).lawful(), 0);
    }

    // Promise 40 (Terms IV): how many bytes there are; the last one.
    private static void onLengthAndLastByte() {
        taken("plain", BOAT, plain());
        int[] whole = plain();
        noImage("one byte too few", BOAT, java.util.Arrays.copyOf(whole, 18));
        noImage("one byte too many", BOAT, java.util.Arrays.copyOf(whole, 20));
        noImage("one byte", BOAT, 0);
        noImage("of a BOAT with fewer SEATS", BOAT, Tapes.sealed(new int[17]));
        noImage("of a BOAT with more SEATS", BOAT, Tapes.sealed(new int[21]));
        noImage("a full tape", BOAT, new int[1600]);
        int[] above = whole.clone();
        above[18] = (above[18] + 1) % 251;
        noImage("the last byte is 1 more", BOAT, above);
        int[] below = whole.clone();
        below[18] = (below[18] + 250) % 251;
        noImage("the last byte is 1 less", BOAT, below);
        for (int stroke = 0; stroke < 256; stroke++) {
            int[] small = plain(1, stroke);
            if (small[18] < 5) {
                small[18] += 251;
                noImage("the last byte is 251 more", BOAT, small);
            }
        }
        int[] other = whole.clone();
        other[9] = 1;
        noImage("another byte ahead of it", BOAT, other);
    }

    // Promise 40: nothing can be undone then; when it is refused, all that could be.
    private static void onNothingUndone() {
        EvenOars oars = Tapes.boat(BOAT);
        oars.turn(0);
        oars.stroke(5);
        int[] image = Tapes.image(oars);
        image[9]++;
        Check.edge(40, "refused", Tapes.on(oars, image), false);
        Check.edge(40, "refused: ACTS can be undone", oars.boat(9), 2);
        image[9]--;
        Check.edge(40, "its own image", Tapes.on(oars, image), true);
        Check.edge(40, "nothing can be undone", oars.boat(9), 0);
        Check.edge(20, "nothing can be undone behind an image", oars.undo(), false);
        Check.edge(40, "the next ACT can", oars.turn(0) && oars.undo() && !oars.undo(), true);
        Check.edge(40, "as it told", oars.boat(8) == 5 && oars.seat(0, 3) == 1, true);
    }

    // Promise 41: NONE for others.
    private static void statusOfOthers() {
        EvenOars oars = new EvenOars();
        for (int what : new int[] {-1, 6, 7, LARGEST, SMALLEST}) {
            Check.edge(41, "others: " + what, oars.status(what), NONE);
        }
        for (int what = 0; what <= 5; what++) {
            Check.edge(41, "none yet: " + what, oars.status(what), 0);
        }
    }

    // Promise 41: how many were refused, each kind by itself, all calls of a kind together.
    private static void statusCountsEach() {
        EvenOars oars = new EvenOars();
        int[] due = new int[6];
        for (int round = 1; round <= 3; round++) {
            oars.end(1);
            oars.end(-1);
            due[0] += 2;
            counts("end()", oars, due);
            Tapes.text(oars, "?");
            due[1]++;
            counts("text()", oars, due);
            oars.turn(0);
            oars.swap(0, 1);
            oars.stroke(0);
            oars.row(201);
            due[2] += 4;
            counts("turn(), swap(), stroke(), row()", oars, due);
            oars.undo();
            due[3]++;
            counts("undo()", oars, due);
            oars.seed(-1);
            due[4]++;
            counts("seed()", oars, due);
            oars.on();
            due[5]++;
            counts("on()", oars, due);
        }
        for (int k = 0; k < 80; k++) {
            oars.feed(0, 0, 0, 0, 0);
        }
        oars.feed(0, 0, 0, 0, 0);
        due[0]++;
        counts("feed()", oars, due);
        Check.edge(41, "all stay behind a BOAT", Tapes.text(oars, BOAT), 8);
        counts("behind a BOAT", oars, due);
    }

    private static void counts(String which, EvenOars oars, int[] due) {
        for (int what = 0; what < 6; what++) {
            Check.edge(41, which + ": " + what, oars.status(what), due[what]);
        }
    }

    // Promise 41: what answers NONE or NOTHING without being refused is not counted.
    private static void statusCountsNoOthers() {
        EvenOars oars = Tapes.boat(BOAT);
        oars.boat(-1);
        oars.letter(9, 9);
        oars.seat(9, 9);
        oars.rower(9, 9);
        oars.want(9);
        oars.swing(9, 9);
        oars.ways(0);
        oars.made(0, 0);
        oars.doubled(0, 0);
        oars.still(0, 0);
        oars.nearest(9);
        oars.seated(9);
        oars.race(0);
        oars.stillest(0, 0);
        oars.under(0, 0);
        oars.strengths(9, 9);
        oars.heirs(0);
        oars.apart(0, true);
        oars.ask();
        oars.octet(0);
        oars.fault(9);
        oars.status(9);
        counts("others", oars, new int[6]);
    }
}

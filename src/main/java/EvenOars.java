import java.util.Arrays;

/**
 * Oars that don't wriggle: a boat told as a text, its swings, and how its sides, its rowers and its
 * races come out evenly. The document in shared/DOC.md says what each call promises.
 */
public final class EvenOars {
    public static final int NONE = -1;
    public static final long NOTHING = -1000000000000000L;

    // What a call may be refused by, as status() numbers them.
    private static final int BY_TAPE = 0;
    private static final int BY_TEXT = 1;
    private static final int BY_ACT = 2;
    private static final int BY_UNDO = 3;
    private static final int BY_SEED = 4;
    private static final int BY_IMAGE = 5;

    private static final int LONGEST_ACT = 200;
    private static final int LAST_STROKE = 9999;
    private static final int LONGEST_RACE = 300;
    private static final int LONGEST_RACE_UNDER_WAY = 100;
    private static final int BITS_OF_SEATED = 20;

    private final Tape tape = new Tape();
    private final Crew crew = new Crew();
    private Plan spare = new Plan();
    private final Question question = new Question();
    private final Lanes lanes = new Lanes();
    private final Nearest nearestSides = new Nearest();
    private final Changes fewestChanges = new Changes();
    private final Race raceAhead = new Race();
    private final Trials trials = new Trials();
    private final Halves halves = new Halves();
    private final int[] refused = new int[6];
    private int faultKind = 0;
    private int faultPlace = NONE;

    public EvenOars() {
    }

    public int feed(int a, int b, int c, int d, int e) {
        if (!tape.hasRoomForFive()) {
            refuse(BY_TAPE);
            return NONE;
        }
        tape.put(a);
        tape.put(b);
        tape.put(c);
        tape.put(d);
        tape.put(e);
        return tape.length;
    }

    public boolean end(int n) {
        return tape.cut(n) || refuse(BY_TAPE);
    }

    public int text() {
        int statements = BoatText.read(tape, spare);
        keepFault();
        if (statements == NONE) {
            refuse(BY_TEXT);
            return NONE;
        }
        Plan former = crew.plan;
        crew.board(spare);
        spare = former;
        trials.forget();
        return statements;
    }

    public int fault(int what) {
        if (what == 0) {
            return faultKind;
        }
        return what == 1 ? faultPlace : NONE;
    }

    public int boat(int what) {
        Plan plan = crew.plan;
        switch (what) {
            case 0: return plan.seats;
            case 1: return plan.rowers;
            case 2: return plan.toLeft;
            case 3: return Integer.bitCount(plan.fixedLeft | plan.fixedRight);
            case 4: return plan.wants();
            case 5: return plan.near;
            case 6: return plan.runs;
            case 7: return plan.payments;
            case 8: return crew.stroke;
            case 9: return crew.actsKept;
            case 10: return plan.seats - Integer.bitCount(crew.sides());
            default: return NONE;
        }
    }

    public int letter(int rower, int k) {
        if (!crew.plan.isRower(rower) || k < 0 || k >= Plan.LETTERS) {
            return NONE;
        }
        return crew.plan.letters[rower * Plan.LETTERS + k];
    }

    public int seat(int seat, int what) {
        Plan plan = crew.plan;
        if (!plan.isSeat(seat)) {
            return NONE;
        }
        switch (what) {
            case 0: return plan.place[seat];
            case 1: return plan.arm[seat];
            case 2: return crew.rowerOf[seat];
            case 3: return crew.toRight[seat];
            case 4: return plan.isFixed(seat) ? 1 : 0;
            case 5: return crew.forceIn(seat, crew.stroke) * plan.arm[seat];
            default: return NONE;
        }
    }

    public int rower(int rower, int what) {
        Plan plan = crew.plan;
        if (!plan.isRower(rower)) {
            return NONE;
        }
        switch (what) {
            case 0: return plan.strength[rower];
            case 1: return plan.tires[rower];
            case 2: return crew.strengthAt(rower, crew.stroke);
            case 3: return crew.seatOf(rower);
            default: return NONE;
        }
    }

    public long want(int power) {
        return Plan.isPower(power) ? crew.plan.wanted[power] : NOTHING;
    }

    // ---- swings

    public long swing(int power, int stroke) {
        if (!Plan.isPower(power) || stroke < 0 || stroke > LAST_STROKE) {
            return NOTHING;
        }
        return crew.swingAt(power, stroke);
    }

    public long off() {
        return crew.offAt(crew.stroke);
    }

    public int good() {
        return crew.isGoodAt(crew.stroke) ? 1 : 0;
    }

    public int lawful() {
        return crew.plan.allows(crew.sides()) ? 1 : 0;
    }

    public long heading() {
        return crew.heading;
    }

    // ---- acts

    public boolean turn(int seat) {
        return crew.turnSeat(seat) || refuse(BY_ACT);
    }

    public boolean swap(int first, int second) {
        return crew.swapRowers(first, second) || refuse(BY_ACT);
    }

    public int stroke(int n) {
        if (!canGoBy(n)) {
            refuse(BY_ACT);
            return NONE;
        }
        crew.passBy(n);
        return crew.stroke;
    }

    public long row(int n) {
        if (!canGoBy(n)) {
            refuse(BY_ACT);
            return NOTHING;
        }
        crew.rowOn(n);
        return crew.heading;
    }

    public boolean undo() {
        return crew.undoAct() || refuse(BY_UNDO);
    }

    public boolean seed(int seed) {
        if (seed < 0) {
            return refuse(BY_SEED);
        }
        crew.drawn = seed;
        return true;
    }

    // ---- alike rowers

    public long ways(int n) {
        return halves.waysFor(n);
    }

    public int made(int n, int k) {
        return halves.wayAt(n, k);
    }

    public long doubled(int k, int p) {
        return Halves.sumDoubled(k, p);
    }

    public int still(int n, int bits) {
        return Halves.stillUpTo(n, bits);
    }

    // ---- the nearest

    public long nearest(int what) {
        if (what < 0 || what > 2 || !nearestSides.findAsTheySit(crew, lanes)) {
            return NONE;
        }
        switch (what) {
            case 0: return nearestSides.off;
            case 1: return nearestSides.bits;
            default: return nearestSides.goods;
        }
    }

    public long seated(int k) {
        boolean known = k == NONE || k == BITS_OF_SEATED || crew.plan.isSeat(k);
        if (!known || !nearestSides.findOrder(crew, lanes)) {
            return NONE;
        }
        if (k == NONE) {
            return nearestSides.bestOff;
        }
        return k == BITS_OF_SEATED ? nearestSides.bestBits : nearestSides.bestRower(k);
    }

    public int changes() {
        return fewestChanges.fewest(crew);
    }

    // ---- races

    public long race(int n) {
        return n < 1 || n > LONGEST_RACE ? NONE : Race.greatest(crew, n);
    }

    public long stillest(int n, int what) {
        if (n < 1 || n > LONGEST_RACE || what < 0 || what > 1 || !raceAhead.findStillest(crew, lanes, n)) {
            return NONE;
        }
        return what == 0 ? raceAhead.least : raceAhead.bits;
    }

    public long under(int n, int what) {
        if (n < 1 || n > LONGEST_RACE_UNDER_WAY || what < 0 || what > 3 || !raceAhead.findUnderWay(crew, n)) {
            return NONE;
        }
        switch (what) {
            case 0: return raceAhead.least;
            case 1: return raceAhead.changeAt;
            case 2: return raceAhead.oneSeat;
            default: return raceAhead.otherSeat;
        }
    }

    // ---- runs

    public int fits() {
        return Trials.firstUnfit(crew.plan);
    }

    public int strengths(int rower, int what) {
        return trials.told(crew.plan, rower, what);
    }

    public int crooked() {
        return trials.crookedSeats(crew.plan);
    }

    // ---- heirs

    public int heirs(int what) {
        if (what < 0 || what > 1 || crew.plan.payments == 0) {
            return NONE;
        }
        halves.partPayments(crew.plan, lanes);
        return what == 0 ? halves.partings : halves.leastParting;
    }

    public long apart(int bits, boolean days) {
        return Halves.heirsApart(crew.plan, bits, days);
    }

    public long ask() {
        boolean understood = question.read(tape);
        keepFault();
        return understood ? question.answer(crew) : NOTHING;
    }

    // ---- images, refusals

    public int image() {
        return crew.writeImage();
    }

    public int octet(int k) {
        return k >= 0 && k < crew.imageSize ? crew.image[k] & 255 : NONE;
    }

    public boolean on() {
        boolean taken = crew.takeImage(tape);
        tape.clear();
        return taken || refuse(BY_IMAGE);
    }

    public int status(int what) {
        return what >= 0 && what < refused.length ? refused[what] : NONE;
    }

    /** Counts a refusal; always false, as a refused call answers. */
    private boolean refuse(int by) {
        if (by >= 0 && by < refused.length) {
            refused[by]++;
        }
        return false;
    }

    private boolean canGoBy(int strokes) {
        return strokes >= 1 && strokes <= LONGEST_ACT && crew.stroke + strokes <= LAST_STROKE;
    }

    /** The tape goes with its text; what fault it had stays known. */
    private void keepFault() {
        faultKind = tape.fault;
        faultPlace = tape.faultAt;
        tape.clear();
    }

    /** The bytes that were fed, and a reader that goes along them word by word. */
    private static final class Tape {
        static final int MOST = 1600;
        static final int LARGEST_NUMBER = 99999;
        private static final int DIGITS = 5;

        private final byte[] octets = new byte[MOST];
        int length = 0;
        int at = 0;
        /** The end of the latest word or number: another one there lacks its blank. */
        private int joint = NONE;
        int value = 0;
        int valueAt = 0;
        int fault = 0;
        int faultAt = NONE;

        boolean hasRoomForFive() {
            return length + 20 <= MOST;
        }

        void put(int number) {
            for (int shift = 24; shift >= 0 && length < MOST; shift -= 8) {
                octets[length] = (byte) (number >> shift);
                length++;
            }
        }

        boolean cut(int n) {
            if (n < 0 || n > length) {
                return false;
            }
            length = n;
            return true;
        }

        void clear() {
            length = 0;
        }

        int byteAt(int k) {
            return k >= 0 && k < length ? octets[k] & 255 : NONE;
        }

        void begin() {
            at = 0;
            joint = NONE;
            fault = 0;
            faultAt = NONE;
        }

        boolean fail(int kind, int place) {
            fault = kind;
            faultAt = place;
            return false;
        }

        boolean failHere() {
            return fail(1, at);
        }

        /** The first byte behind blanks, NONE at the tape's end; at is there then. */
        int next() {
            while (at < length && isBlank(byteAt(at))) {
                at++;
            }
            return byteAt(at);
        }

        boolean takeSign(int sign) {
            if (next() != sign) {
                return failHere();
            }
            at++;
            return true;
        }

        /** Which word of a list comes next (each has a blank behind it); NONE when none of these does. */
        int wordHere(String list) {
            if (!isLetter(next()) || at == joint) {
                return NONE;
            }
            return placeIn(list, wordEnd());
        }

        void passWord() {
            at = wordEnd();
            joint = at;
        }

        boolean takeWord(String list, int word) {
            if (wordHere(list) != word) {
                return failHere();
            }
            passWord();
            return true;
        }

        /** Where the whole word that comes next ends; NONE when no word comes. */
        int anyWordEnd() {
            return isLetter(next()) && at != joint ? wordEnd() : NONE;
        }

        int placeIn(String list, int end) {
            int word = 0;
            int k = at;
            boolean alike = true;
            for (int i = 0; i < list.length(); i++) {
                char sign = list.charAt(i);
                if (sign != ' ') {
                    alike = alike && k < end && byteAt(k) == sign;
                    k++;
                } else if (alike && k == end) {
                    return word;
                } else {
                    word++;
                    k = at;
                    alike = true;
                }
            }
            return NONE;
        }

        boolean takeNumber(int least, int most) {
            boolean told = isDigit(next()) && at != joint;
            valueAt = at;
            value = 0;
            if (!told) {
                return failHere();
            }
            for (int k = 0; k < DIGITS && isDigit(byteAt(at)); k++) {
                value = value * 10 + byteAt(at) - '0';
                at++;
            }
            if (isDigit(byteAt(at))) {
                return failHere();
            }
            joint = at;
            return (value >= least && value <= most) || fail(2, valueAt);
        }

        boolean takeSignedNumber(int most) {
            boolean below = next() == '-';
            int start = at;
            if (below) {
                at++;
            }
            if (!takeNumber(0, LARGEST_NUMBER)) {
                return false;
            }
            valueAt = start;
            if (below) {
                value = -value;
            }
            return Math.abs(value) <= most || fail(2, start);
        }

        private int wordEnd() {
            int end = at;
            while (end < length && isLetter(byteAt(end))) {
                end++;
            }
            return end;
        }

        static boolean isLetter(int octet) {
            return octet >= 'a' && octet <= 'z';
        }

        static boolean isDigit(int octet) {
            return octet >= '0' && octet <= '9';
        }

        private static boolean isBlank(int octet) {
            return octet == 10 || octet == 32;
        }
    }

    /** A boat as its text tells it. */
    private static final class Plan {
        static final int SEATS = 12;
        static final int ROWERS = 12;
        static final int LETTERS = 6;
        static final int POWERS = 4;
        static final int RUNS = 8;
        static final int PAYMENTS = 12;

        int seats = 0;
        final int[] place = new int[SEATS];
        final int[] arm = new int[SEATS];
        /** Arm times place to a power, a row of seats for each power. */
        private final long[] lever = new long[POWERS * SEATS];
        int fixedLeft = 0;
        int fixedRight = 0;
        int rowers = 0;
        final int[] letters = new int[ROWERS * LETTERS];
        final int[] strength = new int[ROWERS];
        final int[] tires = new int[ROWERS];
        int toLeft = NONE;
        final long[] wanted = new long[POWERS];
        int near = 0;
        int runs = 0;
        /** 1 to the right, -1 to the left, 0 without: a row of seats for each run. */
        private final int[] runSide = new int[RUNS * SEATS];
        private final int[] runPower = new int[RUNS];
        private final int[] runSwung = new int[RUNS];
        int payments = 0;
        private final int[] paid = new int[PAYMENTS];
        private final int[] paidOn = new int[PAYMENTS];

        Plan() {
            Arrays.fill(wanted, NOTHING);
        }

        void clear() {
            seats = 0;
            fixedLeft = 0;
            fixedRight = 0;
            rowers = 0;
            toLeft = NONE;
            near = 0;
            runs = 0;
            payments = 0;
            Arrays.fill(letters, 0);
            Arrays.fill(wanted, NOTHING);
            Arrays.fill(runSide, 0);
        }

        boolean isSeat(int seat) {
            return seat >= 0 && seat < seats;
        }

        boolean isRower(int rower) {
            return rower >= 0 && rower < rowers;
        }

        static boolean isPower(int power) {
            return power >= 0 && power < POWERS;
        }

        boolean isFixed(int seat) {
            return ((fixedLeft | fixedRight) >> seat & 1) == 1;
        }

        int seatAtPlace(int wantedPlace) {
            for (int s = 0; s < seats; s++) {
                if (place[s] == wantedPlace) {
                    return s;
                }
            }
            return NONE;
        }

        void addSeat(int itsPlace, int itsArm) {
            if (seats >= SEATS) {
                return;
            }
            place[seats] = itsPlace;
            arm[seats] = itsArm;
            long product = itsArm;
            for (int p = 0; p < POWERS; p++) {
                lever[p * SEATS + seats] = product;
                product *= itsPlace;
            }
            seats++;
        }

        void fixSeat(int seat, boolean right) {
            int bit = 1 << seat;
            fixedLeft = right ? fixedLeft & ~bit : fixedLeft | bit;
            fixedRight = right ? fixedRight | bit : fixedRight & ~bit;
        }

        void addRower(int itsStrength, int itsTires) {
            if (rowers >= ROWERS) {
                return;
            }
            strength[rowers] = itsStrength;
            tires[rowers] = itsTires;
            rowers++;
        }

        void wantSwing(int power, int swung) {
            if (isPower(power)) {
                wanted[power] = swung;
            }
        }

        void addRun(int power, int swung) {
            if (runs >= RUNS) {
                return;
            }
            runPower[runs] = power;
            runSwung[runs] = swung;
            runs++;
        }

        /** A side of the run that is told now: it is counted when addRun() comes. */
        void setRunSide(int seat, int side) {
            if (runs < RUNS && isSeat(seat)) {
                runSide[runs * SEATS + seat] = side;
            }
        }

        void addPayment(int sum, int day) {
            if (payments >= PAYMENTS) {
                return;
            }
            paid[payments] = sum;
            paidOn[payments] = day;
            payments++;
        }

        int wants() {
            int count = 0;
            for (int p = 0; p < POWERS; p++) {
                if (wanted[p] != NOTHING) {
                    count++;
                }
            }
            return count;
        }

        long leverOf(int power, int seat) {
            boolean known = power >= 0 && power < POWERS && seat >= 0 && seat < seats;
            return known ? lever[power * SEATS + seat] : 0;
        }

        boolean allows(int bits) {
            return (bits & fixedLeft) == 0 && (bits & fixedRight) == fixedRight
                    && (toLeft == NONE || seats - Integer.bitCount(bits) == toLeft);
        }

        int sideAtFirst(int seat) {
            if (isFixed(seat)) {
                return fixedRight >> seat & 1;
            }
            return seat & 1;
        }

        int seatedAtFirst() {
            return Math.min(seats, rowers);
        }

        /** What a rower as he sits at first brings to a run for each one of his strength. */
        long runLever(int run, int rower) {
            if (run < 0 || run >= runs || rower < 0 || rower >= seatedAtFirst()) {
                return 0;
            }
            return runSide[run * SEATS + rower] * leverOf(runPower[run], rower);
        }

        long swungOf(int run) {
            return run >= 0 && run < runs ? runSwung[run] : 0;
        }

        long payment(int k, boolean days) {
            if (k < 0 || k >= payments) {
                return 0;
            }
            return days ? (long) paid[k] * paidOn[k] : paid[k];
        }
    }

    /** Reads a boat's text from the tape into a plan. */
    private static final class BoatText {
        private static final String OWN_WORDS =
                "seat arm rower strength tires each fix left right want is near run power swung pay on ";
        private static final int SEAT = 0;
        private static final int ARM = 1;
        private static final int ROWER = 2;
        private static final int STRENGTH = 3;
        private static final int TIRES = 4;
        private static final int EACH = 5;
        private static final int FIX = 6;
        private static final int LEFT = 7;
        private static final int RIGHT = 8;
        private static final int WANT = 9;
        private static final int IS = 10;
        private static final int NEAR = 11;
        private static final int RUN = 12;
        private static final int POWER = 13;
        private static final int SWUNG = 14;
        private static final int PAY = 15;
        private static final int ON = 16;
        private static final int STATEMENTS = 70;

        /** How many statements the tape tells; NONE with a fault, which the tape knows then. */
        static int read(Tape tape, Plan plan) {
            tape.begin();
            plan.clear();
            for (int told = 0; told <= STATEMENTS; told++) {
                if (tape.next() == NONE) {
                    return told;
                }
                if (told == STATEMENTS) {
                    tape.fail(5, tape.at);
                } else if (statement(tape, plan)) {
                    tape.takeSign(';');
                }
                if (tape.fault != 0) {
                    return NONE;
                }
            }
            return NONE;
        }

        private static boolean statement(Tape tape, Plan plan) {
            int word = tape.wordHere(OWN_WORDS);
            if (isOneTooMany(plan, word)) {
                return tape.fail(5, tape.at);
            }
            if (word == NONE) {
                return tape.failHere();
            }
            int start = tape.at;
            tape.passWord();
            switch (word) {
                case SEAT: return seatTold(tape, plan);
                case ROWER: return rowerTold(tape, plan);
                case EACH: return eachTold(tape, plan);
                case FIX: return fixTold(tape, plan);
                case WANT: return wantTold(tape, plan);
                case NEAR: return nearTold(tape, plan);
                case RUN: return runTold(tape, plan);
                case PAY: return payTold(tape, plan);
                default: return tape.fail(1, start);
            }
        }

        private static boolean isOneTooMany(Plan plan, int word) {
            switch (word) {
                case SEAT: return plan.seats >= Plan.SEATS;
                case ROWER: return plan.rowers >= Plan.ROWERS;
                case RUN: return plan.runs >= Plan.RUNS;
                case PAY: return plan.payments >= Plan.PAYMENTS;
                default: return false;
            }
        }

        private static boolean seatTold(Tape tape, Plan plan) {
            if (!tape.takeNumber(1, 99)) {
                return false;
            }
            int place = tape.value;
            if (plan.seatAtPlace(place) != NONE) {
                return tape.fail(2, tape.valueAt);
            }
            if (!tape.takeWord(OWN_WORDS, ARM) || !tape.takeNumber(1, 99)) {
                return false;
            }
            plan.addSeat(place, tape.value);
            return true;
        }

        private static boolean rowerTold(Tape tape, Plan plan) {
            if (!nameTold(tape, plan) || !tape.takeWord(OWN_WORDS, STRENGTH) || !tape.takeNumber(1, 99)) {
                return false;
            }
            int strength = tape.value;
            if (!tape.takeWord(OWN_WORDS, TIRES) || !tape.takeNumber(0, 9)) {
                return false;
            }
            plan.addRower(strength, tape.value);
            return true;
        }

        /** A new name becomes the letters of the rower that is told now. */
        private static boolean nameTold(Tape tape, Plan plan) {
            int end = tape.anyWordEnd();
            int start = tape.at;
            if (end == NONE || tape.placeIn(OWN_WORDS, end) != NONE) {
                return tape.failHere();
            }
            if (end - start > Plan.LETTERS) {
                return tape.fail(1, start + Plan.LETTERS);
            }
            for (int r = 0; r < plan.rowers; r++) {
                if (isName(tape, plan, r, end)) {
                    return tape.fail(3, start);
                }
            }
            int from = plan.rowers * Plan.LETTERS;
            for (int k = 0; k < end - start && from + k < plan.letters.length; k++) {
                plan.letters[from + k] = tape.byteAt(start + k) - 'a' + 1;
            }
            tape.passWord();
            return true;
        }

        private static boolean isName(Tape tape, Plan plan, int rower, int end) {
            for (int k = 0; k < Plan.LETTERS; k++) {
                int here = tape.at + k < end ? tape.byteAt(tape.at + k) - 'a' + 1 : 0;
                if (plan.letters[rower * Plan.LETTERS + k] != here) {
                    return false;
                }
            }
            return true;
        }

        private static boolean eachTold(Tape tape, Plan plan) {
            if (!tape.takeNumber(0, 12)) {
                return false;
            }
            plan.toLeft = tape.value;
            return true;
        }

        private static boolean fixTold(Tape tape, Plan plan) {
            if (!tape.takeNumber(0, Tape.LARGEST_NUMBER)) {
                return false;
            }
            int seat = plan.seatAtPlace(tape.value);
            if (seat == NONE) {
                return tape.fail(2, tape.valueAt);
            }
            boolean right = tape.wordHere(OWN_WORDS) == RIGHT;
            if (!tape.takeWord(OWN_WORDS, right ? RIGHT : LEFT)) {
                return false;
            }
            plan.fixSeat(seat, right);
            return true;
        }

        private static boolean wantTold(Tape tape, Plan plan) {
            if (!tape.takeNumber(0, Plan.POWERS - 1)) {
                return false;
            }
            int power = tape.value;
            if (!tape.takeWord(OWN_WORDS, IS) || !tape.takeSignedNumber(9999)) {
                return false;
            }
            plan.wantSwing(power, tape.value);
            return true;
        }

        private static boolean nearTold(Tape tape, Plan plan) {
            if (!tape.takeNumber(0, 9999)) {
                return false;
            }
            plan.near = tape.value;
            return true;
        }

        private static boolean runTold(Tape tape, Plan plan) {
            if (!sidesTold(tape, plan) || !tape.takeWord(OWN_WORDS, POWER) || !tape.takeNumber(0, Plan.POWERS - 1)) {
                return false;
            }
            int power = tape.value;
            if (!tape.takeWord(OWN_WORDS, SWUNG) || !tape.takeSignedNumber(99999)) {
                return false;
            }
            plan.addRun(power, tape.value);
            return true;
        }

        private static boolean sidesTold(Tape tape, Plan plan) {
            int end = tape.anyWordEnd();
            if (end == NONE || end - tape.at != plan.seats) {
                return tape.failHere();
            }
            for (int s = 0; s < plan.seats; s++) {
                int letter = tape.byteAt(tape.at + s);
                if (letter != 'l' && letter != 'r' && letter != 'x') {
                    return tape.failHere();
                }
                int side = letter == 'r' ? 1 : -1;
                plan.setRunSide(s, letter == 'x' ? 0 : side);
            }
            tape.passWord();
            return true;
        }

        private static boolean payTold(Tape tape, Plan plan) {
            if (!tape.takeNumber(1, 999)) {
                return false;
            }
            int sum = tape.value;
            if (!tape.takeWord(OWN_WORDS, ON) || !tape.takeNumber(0, 999)) {
                return false;
            }
            plan.addPayment(sum, tape.value);
            return true;
        }
    }

    /** Who sits where, to which side each seat rows, how far the boat has come, and its latest acts. */
    private static final class Crew {
        private static final int ACTS = 30;
        private static final int TURN = 0;
        private static final int SWAP = 1;
        private static final int STROKES = 2;
        private static final int LARGEST_IMAGE = 11 + 2 * Plan.SEATS;

        Plan plan = new Plan();
        final int[] rowerOf = new int[Plan.SEATS];
        final int[] toRight = new int[Plan.SEATS];
        int stroke = 0;
        long heading = 0;
        /** The number that draws come from; the seed, ahead of them. */
        long drawn = 1;
        private final int[] actKind = new int[ACTS];
        private final int[] actFirst = new int[ACTS];
        private final int[] actSecond = new int[ACTS];
        private final long[] actHeading = new long[ACTS];
        private int actNext = 0;
        int actsKept = 0;
        final byte[] image = new byte[LARGEST_IMAGE];
        int imageSize = 0;

        Crew() {
            Arrays.fill(rowerOf, NONE);
        }

        void board(Plan told) {
            plan = told;
            for (int s = 0; s < Plan.SEATS; s++) {
                rowerOf[s] = s < told.seatedAtFirst() ? s : NONE;
                toRight[s] = told.sideAtFirst(s);
            }
            stroke = 0;
            heading = 0;
            actsKept = 0;
        }

        int seatOf(int rower) {
            for (int s = 0; s < plan.seats; s++) {
                if (rowerOf[s] == rower) {
                    return s;
                }
            }
            return NONE;
        }

        int sides() {
            int bits = 0;
            for (int s = 0; s < plan.seats; s++) {
                bits |= toRight[s] << s;
            }
            return bits;
        }

        int strengthAt(int rower, int atStroke) {
            if (rower < 0 || rower >= plan.rowers) {
                return 0;
            }
            return Math.max(0, plan.strength[rower] - plan.tires[rower] * (atStroke / 10));
        }

        int forceIn(int seat, int atStroke) {
            return plan.isSeat(seat) ? strengthAt(rowerOf[seat], atStroke) : 0;
        }

        long leverToSide(int power, int seat) {
            if (!plan.isSeat(seat)) {
                return 0;
            }
            long lever = plan.leverOf(power, seat);
            return toRight[seat] == 1 ? lever : -lever;
        }

        long swingAt(int power, int atStroke) {
            long sum = 0;
            for (int s = 0; s < plan.seats; s++) {
                sum += forceIn(s, atStroke) * leverToSide(power, s);
            }
            return sum;
        }

        long offAt(int atStroke) {
            long sum = 0;
            for (int p = 0; p < Plan.POWERS; p++) {
                if (plan.wanted[p] != NOTHING) {
                    sum += Math.abs(swingAt(p, atStroke) - plan.wanted[p]);
                }
            }
            return sum;
        }

        boolean isGoodAt(int atStroke) {
            for (int p = 0; p < Plan.POWERS; p++) {
                if (plan.wanted[p] != NOTHING && Math.abs(swingAt(p, atStroke) - plan.wanted[p]) > plan.near) {
                    return false;
                }
            }
            return true;
        }

        boolean turnSeat(int seat) {
            if (!plan.isSeat(seat) || plan.isFixed(seat)) {
                return false;
            }
            noteAct(TURN, seat, NONE);
            flip(seat);
            return true;
        }

        boolean swapRowers(int first, int second) {
            if (!plan.isSeat(first) || !plan.isSeat(second) || first == second) {
                return false;
            }
            if (rowerOf[first] == NONE && rowerOf[second] == NONE) {
                return false;
            }
            noteAct(SWAP, first, second);
            exchange(first, second);
            return true;
        }

        void passBy(int strokes) {
            noteAct(STROKES, strokes, NONE);
            stroke += strokes;
        }

        void rowOn(int strokes) {
            noteAct(STROKES, strokes, NONE);
            for (int k = 0; k < strokes; k++) {
                stroke++;
                heading += drawnSwing();
            }
        }

        boolean undoAct() {
            if (actsKept == 0) {
                return false;
            }
            actsKept--;
            actNext = (actNext + ACTS - 1) % ACTS;
            int first = actFirst[actNext];
            switch (actKind[actNext]) {
                case TURN:
                    flip(first);
                    break;
                case SWAP:
                    exchange(first, actSecond[actNext]);
                    break;
                default:
                    stroke -= first;
                    heading = actHeading[actNext];
                    break;
            }
            return true;
        }

        int writeImage() {
            imageSize = 0;
            writeOctet(stroke >> 8);
            writeOctet(stroke);
            for (int shift = 56; shift >= 0; shift -= 8) {
                writeOctet((int) (heading >> shift));
            }
            for (int s = 0; s < plan.seats; s++) {
                writeOctet(rowerOf[s] + 1);
                writeOctet(toRight[s]);
            }
            int check = 107;
            for (int k = 0; k < imageSize; k++) {
                check = checkOn(check, image[k] & 255);
            }
            writeOctet(check);
            return imageSize;
        }

        boolean takeImage(Tape tape) {
            if (!isImage(tape)) {
                return false;
            }
            stroke = strokeIn(tape);
            heading = 0;
            for (int k = 2; k < 10; k++) {
                heading = heading << 8 | tape.byteAt(k);
            }
            for (int s = 0; s < plan.seats; s++) {
                rowerOf[s] = tape.byteAt(10 + 2 * s) - 1;
                toRight[s] = tape.byteAt(11 + 2 * s);
            }
            actsKept = 0;
            return true;
        }

        private boolean isImage(Tape tape) {
            int size = 11 + 2 * plan.seats;
            if (tape.length != size) {
                return false;
            }
            int check = 107;
            for (int k = 0; k < size - 1; k++) {
                check = checkOn(check, tape.byteAt(k));
            }
            return check == tape.byteAt(size - 1) && strokeIn(tape) <= LAST_STROKE
                    && rowersCanSitSo(tape) && sidesCanBeSo(tape);
        }

        private boolean rowersCanSitSo(Tape tape) {
            int seen = 0;
            for (int s = 0; s < plan.seats; s++) {
                int rower = tape.byteAt(10 + 2 * s) - 1;
                if (rower != NONE) {
                    if (!plan.isRower(rower) || (seen >> rower & 1) == 1) {
                        return false;
                    }
                    seen |= 1 << rower;
                }
            }
            return Integer.bitCount(seen) == plan.seatedAtFirst();
        }

        private boolean sidesCanBeSo(Tape tape) {
            for (int s = 0; s < plan.seats; s++) {
                int side = tape.byteAt(11 + 2 * s);
                if (side > 1 || (plan.isFixed(s) && side != plan.sideAtFirst(s))) {
                    return false;
                }
            }
            return true;
        }

        private static int strokeIn(Tape tape) {
            return tape.byteAt(0) << 8 | tape.byteAt(1);
        }

        private static int checkOn(int check, int octet) {
            return (5 * check + octet) % 251;
        }

        private void writeOctet(int octet) {
            if (imageSize < image.length) {
                image[imageSize] = (byte) octet;
                imageSize++;
            }
        }

        private void noteAct(int kind, int first, int second) {
            actKind[actNext] = kind;
            actFirst[actNext] = first;
            actSecond[actNext] = second;
            actHeading[actNext] = heading;
            actNext = (actNext + 1) % ACTS;
            actsKept = Math.min(ACTS, actsKept + 1);
        }

        private void flip(int seat) {
            if (plan.isSeat(seat)) {
                toRight[seat] = 1 - toRight[seat];
            }
        }

        private void exchange(int first, int second) {
            if (plan.isSeat(first) && plan.isSeat(second)) {
                int rower = rowerOf[first];
                rowerOf[first] = rowerOf[second];
                rowerOf[second] = rower;
            }
        }

        /** The swing of power 1 at this stroke, a draw for each seat that has a rower. */
        private long drawnSwing() {
            long sum = 0;
            for (int s = 0; s < plan.seats; s++) {
                if (rowerOf[s] != NONE) {
                    int force = Math.max(0, forceIn(s, stroke) + drawOfThree() - 1);
                    sum += force * leverToSide(1, s);
                }
            }
            return sum;
        }

        private int drawOfThree() {
            drawn = (1103515245L * drawn + 12345L) & 0x7fffffffL;
            return (int) (drawn / 64 % 3);
        }
    }

    /** A question: its text becomes a row of codes behind their operands, answered stroke by stroke. */
    private static final class Question {
        private static final String WORDS =
                "first last often total most least or and not all stroke off good swing force min max ";
        private static final int FIRST = 0;
        private static final int LAST = 1;
        private static final int OFTEN = 2;
        private static final int TOTAL = 3;
        private static final int MOST = 4;
        private static final int LEAST = 5;
        private static final int OR = 6;
        private static final int AND = 7;
        private static final int NOT = 8;
        private static final int ALL = 9;
        private static final int STROKE = 10;
        private static final int OFF = 11;
        private static final int GOOD = 12;
        private static final int SWING = 13;
        private static final int FORCE = 14;
        private static final int MIN = 15;
        private static final int MAX = 16;
        // Codes that are signs, not words.
        private static final int PLUS = 17;
        private static final int LESS = 18;
        private static final int TIMES = 19;
        private static final int BY = 20;
        private static final int BELOW = 21;
        private static final int ABOVE = 22;
        private static final int SAME = 23;

        private static final int MOST_OPEN = 6;
        private static final int STROKES_ON = 100;
        private static final long HELD = 1000000L;

        private int asked = NONE;
        /** A number as it is; another code c as -1 - c. */
        private final int[] codes = new int[Tape.MOST];
        private int used = 0;
        private final long[] stack = new long[64];
        private int top = 0;
        /** All but the stroke's own number is alike in ten strokes: kept for these. */
        private int keptTen = NONE;
        private final long[] keptSwing = new long[Plan.POWERS];
        private long keptOff = 0;
        private long keptGood = 0;

        boolean read(Tape tape) {
            tape.begin();
            used = 0;
            asked = tape.wordHere(WORDS);
            if (asked < FIRST || asked > LEAST) {
                return tape.failHere();
            }
            tape.passWord();
            boolean told = asked <= OFTEN ? test(tape, 0) : sum(tape, 0);
            return told && (tape.next() == NONE || tape.failHere());
        }

        private boolean test(Tape tape, int open) {
            if (!both(tape, open)) {
                return false;
            }
            for (int k = 0; k < Tape.MOST && tape.wordHere(WORDS) == OR; k++) {
                tape.passWord();
                if (!both(tape, open)) {
                    return false;
                }
                code(OR);
            }
            return true;
        }

        private boolean both(Tape tape, int open) {
            if (!fact(tape, open)) {
                return false;
            }
            for (int k = 0; k < Tape.MOST && tape.wordHere(WORDS) == AND; k++) {
                tape.passWord();
                if (!fact(tape, open)) {
                    return false;
                }
                code(AND);
            }
            return true;
        }

        private boolean fact(Tape tape, int open) {
            int word = tape.wordHere(WORDS);
            if (word == ALL) {
                tape.passWord();
                code(ALL);
                return true;
            }
            if (word == NOT) {
                if (!mayOpen(tape, open)) {
                    return false;
                }
                tape.passWord();
                boolean told = fact(tape, open + 1);
                code(NOT);
                return told;
            }
            if (tape.next() == '[') {
                return mayOpen(tape, open) && tape.takeSign('[') && test(tape, open + 1) && tape.takeSign(']');
            }
            return comparison(tape, open);
        }

        private boolean comparison(Tape tape, int open) {
            if (!sum(tape, open)) {
                return false;
            }
            int sign = tape.next();
            if (sign != '<' && sign != '>' && sign != '=') {
                return tape.failHere();
            }
            tape.takeSign(sign);
            boolean told = sum(tape, open);
            if (sign == '<') {
                code(BELOW);
            } else {
                code(sign == '>' ? ABOVE : SAME);
            }
            return told;
        }

        private boolean sum(Tape tape, int open) {
            if (!product(tape, open)) {
                return false;
            }
            for (int k = 0; k < Tape.MOST && (tape.next() == '+' || tape.next() == '-'); k++) {
                int sign = tape.next();
                if (!tape.takeSign(sign) || !product(tape, open)) {
                    return false;
                }
                code(sign == '+' ? PLUS : LESS);
            }
            return true;
        }

        private boolean product(Tape tape, int open) {
            if (!part(tape, open)) {
                return false;
            }
            for (int k = 0; k < Tape.MOST && (tape.next() == '*' || tape.next() == '/'); k++) {
                int sign = tape.next();
                if (!tape.takeSign(sign) || !part(tape, open)) {
                    return false;
                }
                code(sign == '*' ? TIMES : BY);
            }
            return true;
        }

        private boolean part(Tape tape, int open) {
            int next = tape.next();
            if (next == '(') {
                return mayOpen(tape, open) && tape.takeSign('(') && sum(tape, open + 1) && tape.takeSign(')');
            }
            if (Tape.isDigit(next)) {
                boolean told = tape.takeNumber(0, Tape.LARGEST_NUMBER);
                keep(tape.value);
                return told;
            }
            int word = tape.wordHere(WORDS);
            switch (word) {
                case STROKE:
                case OFF:
                case GOOD:
                    tape.passWord();
                    code(word);
                    return true;
                case SWING:
                case FORCE:
                    return partOf(tape, open, word);
                case MIN:
                case MAX:
                    return pair(tape, open, word);
                default:
                    return tape.failHere();
            }
        }

        private boolean partOf(Tape tape, int open, int word) {
            if (!mayOpen(tape, open)) {
                return false;
            }
            tape.passWord();
            boolean told = part(tape, open + 1);
            code(word);
            return told;
        }

        private boolean pair(Tape tape, int open, int word) {
            tape.passWord();
            if (tape.next() != '(') {
                return tape.failHere();
            }
            boolean told = mayOpen(tape, open) && tape.takeSign('(') && sum(tape, open + 1)
                    && tape.takeSign(',') && sum(tape, open + 1) && tape.takeSign(')');
            code(word);
            return told;
        }

        private static boolean mayOpen(Tape tape, int open) {
            return open < MOST_OPEN || tape.fail(4, tape.at);
        }

        private void code(int code) {
            keep(-1 - code);
        }

        private void keep(int entry) {
            if (used < codes.length) {
                codes[used] = entry;
                used++;
            }
        }

        long answer(Crew crew) {
            keptTen = NONE;
            int from = crew.stroke;
            int to = Math.min(from + STROKES_ON, LAST_STROKE);
            return asked <= OFTEN ? answerTest(crew, from, to) : answerSum(crew, from, to);
        }

        private long answerTest(Crew crew, int from, int to) {
            int first = NONE;
            int last = NONE;
            int often = 0;
            for (int stroke = from; stroke <= to; stroke++) {
                keepTen(crew, stroke);
                if (valueAt(crew, stroke) != 0) {
                    first = first == NONE ? stroke : first;
                    last = stroke;
                    often++;
                }
            }
            if (asked == OFTEN) {
                return often;
            }
            return asked == FIRST ? first : last;
        }

        private long answerSum(Crew crew, int from, int to) {
            long total = 0;
            long most = -HELD;
            long least = HELD;
            for (int stroke = from; stroke <= to; stroke++) {
                keepTen(crew, stroke);
                long value = valueAt(crew, stroke);
                total += value;
                most = Math.max(most, value);
                least = Math.min(least, value);
            }
            if (asked == TOTAL) {
                return total;
            }
            return asked == MOST ? most : least;
        }

        private long valueAt(Crew crew, int stroke) {
            top = 0;
            for (int k = 0; k < used; k++) {
                int entry = codes[k];
                if (entry >= 0) {
                    push(entry);
                } else {
                    apply(crew, -1 - entry, stroke);
                }
            }
            return pop();
        }

        private void keepTen(Crew crew, int stroke) {
            if (keptTen == stroke / 10) {
                return;
            }
            keptTen = stroke / 10;
            for (int p = 0; p < Plan.POWERS; p++) {
                keptSwing[p] = held(crew.swingAt(p, stroke));
            }
            keptOff = held(crew.offAt(stroke));
            keptGood = crew.isGoodAt(stroke) ? 1 : 0;
        }

        private void apply(Crew crew, int code, int stroke) {
            switch (code) {
                case ALL:
                    push(1);
                    break;
                case STROKE:
                    push(stroke);
                    break;
                case OFF:
                    push(keptOff);
                    break;
                case GOOD:
                    push(keptGood);
                    break;
                case NOT:
                    push(pop() == 0 ? 1 : 0);
                    break;
                case SWING:
                    push(swingOf(pop()));
                    break;
                case FORCE:
                    push(forceOf(crew, pop(), stroke));
                    break;
                default:
                    applyToTwo(code);
                    break;
            }
        }

        private void applyToTwo(int code) {
            long right = pop();
            long left = pop();
            push(joined(code, left, right));
        }

        private long swingOf(long power) {
            return power >= 0 && power < Plan.POWERS ? keptSwing[(int) power] : 0;
        }

        private static long forceOf(Crew crew, long rower, int stroke) {
            return rower >= 0 && rower < Plan.ROWERS ? crew.strengthAt((int) rower, stroke) : 0;
        }

        private static long joined(int code, long left, long right) {
            switch (code) {
                case OR: return Math.max(left, right);
                case AND: return Math.min(left, right);
                case MIN: return Math.min(left, right);
                case MAX: return Math.max(left, right);
                case PLUS: return held(left + right);
                case LESS: return held(left - right);
                case TIMES: return held(left * right);
                case BY: return right == 0 ? 0 : Math.floorDiv(left, right);
                case BELOW: return left < right ? 1 : 0;
                case ABOVE: return left > right ? 1 : 0;
                default: return left == right ? 1 : 0;
            }
        }

        private static long held(long value) {
            return Math.max(-HELD, Math.min(HELD, value));
        }

        private void push(long value) {
            if (top < stack.length) {
                stack[top] = value;
                top++;
            }
        }

        private long pop() {
            if (top == 0) {
                return 0;
            }
            top--;
            return stack[top];
        }
    }

    /** Sums over all sides at once: from one bits to the next higher ones, each sum makes one jump. */
    private static final class Lanes {
        static final int MOST = 32;
        private static final int PARTS = 12;

        final long[] sum = new long[MOST];
        private final long[] jump = new long[MOST * PARTS];
        int used = 0;

        void clear() {
            used = 0;
        }

        /** A sum that is at first beyond, less all loads (bits 0). */
        void add(long beyond, long[] load, int parts) {
            if (used >= MOST || parts > PARTS || parts > load.length) {
                return;
            }
            long passed = 0;
            for (int k = 0; k < parts; k++) {
                jump[used * PARTS + k] = 2 * (load[k] - passed);
                passed += load[k];
            }
            sum[used] = beyond - passed;
            used++;
        }

        /** From the bits just below to these, which are not 0: the lowest one comes, all below it go. */
        void advanceTo(int bits) {
            int part = Integer.bitCount((bits & -bits) - 1);
            if (part >= PARTS) {
                return;
            }
            for (int lane = 0; lane < used; lane++) {
                sum[lane] += jump[lane * PARTS + part];
            }
        }
    }

    /** The sides, and the orders of rowers, that come nearest to what is wanted. */
    private static final class Nearest {
        private static final int ORDERED = 5;

        private final long[] load = new long[Plan.SEATS];
        private final int[] force = new int[Plan.SEATS];
        private boolean found = false;
        long off = 0;
        int bits = 0;
        int goods = 0;
        private final int[] order = new int[ORDERED];
        private final int[] bestOrder = new int[ORDERED];
        private boolean anyOrder = false;
        long bestOff = 0;
        int bestBits = 0;

        boolean findAsTheySit(Crew crew, Lanes lanes) {
            for (int s = 0; s < Plan.SEATS; s++) {
                force[s] = crew.forceIn(s, crew.stroke);
            }
            scan(crew.plan, lanes);
            return found;
        }

        boolean findOrder(Crew crew, Lanes lanes) {
            Plan plan = crew.plan;
            anyOrder = false;
            if (plan.seats == plan.rowers && plan.seats <= ORDERED) {
                arrange(crew, lanes, 0, 0);
            }
            return anyOrder;
        }

        int bestRower(int seat) {
            return seat >= 0 && seat < ORDERED ? bestOrder[seat] : NONE;
        }

        /** Orders come by the rowers in seats 0, 1, ..: of like ones the first stays. */
        private void arrange(Crew crew, Lanes lanes, int seat, int taken) {
            Plan plan = crew.plan;
            if (seat >= plan.seats || seat >= ORDERED) {
                scan(plan, lanes);
                if (found && (!anyOrder || off < bestOff)) {
                    keepOrder();
                }
                return;
            }
            for (int r = 0; r < plan.rowers; r++) {
                if ((taken >> r & 1) == 0) {
                    order[seat] = r;
                    force[seat] = crew.strengthAt(r, crew.stroke);
                    arrange(crew, lanes, seat + 1, taken | 1 << r);
                }
            }
        }

        private void keepOrder() {
            anyOrder = true;
            bestOff = off;
            bestBits = bits;
            System.arraycopy(order, 0, bestOrder, 0, ORDERED);
        }

        private void scan(Plan plan, Lanes lanes) {
            setLanes(plan, lanes);
            found = false;
            goods = 0;
            int end = 1 << plan.seats;
            for (int b = 0; b < end; b++) {
                if (b > 0) {
                    lanes.advanceTo(b);
                }
                if (plan.allows(b)) {
                    weigh(lanes, plan.near, b);
                }
            }
        }

        /** A lane for each want: what its swing is beyond what is wanted. */
        private void setLanes(Plan plan, Lanes lanes) {
            lanes.clear();
            for (int p = 0; p < Plan.POWERS; p++) {
                if (plan.wanted[p] != NOTHING) {
                    for (int s = 0; s < plan.seats; s++) {
                        load[s] = force[s] * plan.leverOf(p, s);
                    }
                    lanes.add(-plan.wanted[p], load, plan.seats);
                }
            }
        }

        private void weigh(Lanes lanes, int near, int b) {
            long gaps = 0;
            boolean allNear = true;
            for (int lane = 0; lane < lanes.used; lane++) {
                long gap = Math.abs(lanes.sum[lane]);
                gaps += gap;
                allNear = allNear && gap <= near;
            }
            if (allNear) {
                goods++;
            }
            if (!found || gaps < off) {
                found = true;
                off = gaps;
                bits = b;
            }
        }
    }

    /** The fewest turns and swaps behind which the boat is good and lawful. */
    private static final class Changes {
        private static final int MOST_CHANGES = 3;

        private final int[] force = new int[Plan.SEATS];
        /** A row of seats for each want: the lever of its power, to the side that the seat rows to. */
        private final long[] lever = new long[Plan.POWERS * Plan.SEATS];
        private final long[] gap = new long[Plan.POWERS];
        private int lanes = 0;
        private int bits = 0;

        int fewest(Crew crew) {
            load(crew);
            for (int changes = 0; changes <= MOST_CHANGES; changes++) {
                for (int turns = changes; turns >= 0; turns--) {
                    if (canBeLawful(crew.plan, turns) && bySwaps(crew.plan, changes - turns, turns, 1)) {
                        return changes;
                    }
                }
            }
            return NONE;
        }

        private void load(Crew crew) {
            bits = crew.sides();
            for (int s = 0; s < Plan.SEATS; s++) {
                force[s] = crew.forceIn(s, crew.stroke);
            }
            lanes = 0;
            for (int p = 0; p < Plan.POWERS; p++) {
                long wanted = crew.plan.wanted[p];
                if (wanted != NOTHING) {
                    for (int s = 0; s < Plan.SEATS; s++) {
                        lever[lanes * Plan.SEATS + s] = crew.leverToSide(p, s);
                    }
                    gap[lanes] = crew.swingAt(p, crew.stroke) - wanted;
                    lanes++;
                }
            }
        }

        private boolean canBeLawful(Plan plan, int turns) {
            if (plan.toLeft == NONE) {
                return true;
            }
            int missing = Math.abs(plan.seats - Integer.bitCount(bits) - plan.toLeft);
            return missing <= turns && (turns - missing) % 2 == 0;
        }

        /**
         * Each order of rowers that some swaps can make is made by just one row of so many swaps
         * whose higher seats grow (and by no fewer swaps), so no other rows need be tried.
         */
        private boolean bySwaps(Plan plan, int swaps, int turns, int from) {
            if (swaps <= 0) {
                return byTurns(plan, turns, 0);
            }
            for (int high = from; high < plan.seats; high++) {
                for (int low = 0; low < high; low++) {
                    if (force[low] != force[high]) {
                        exchange(low, high);
                        boolean reached = bySwaps(plan, swaps - 1, turns, high + 1);
                        exchange(low, high);
                        if (reached) {
                            return true;
                        }
                    }
                }
            }
            return false;
        }

        private boolean byTurns(Plan plan, int turns, int from) {
            if (turns <= 0) {
                return plan.allows(bits) && isGood(plan.near);
            }
            for (int s = from; s < plan.seats; s++) {
                if (!plan.isFixed(s)) {
                    flip(s);
                    boolean reached = byTurns(plan, turns - 1, s + 1);
                    flip(s);
                    if (reached) {
                        return true;
                    }
                }
            }
            return false;
        }

        private boolean isGood(int near) {
            for (int lane = 0; lane < lanes; lane++) {
                if (Math.abs(gap[lane]) > near) {
                    return false;
                }
            }
            return true;
        }

        private void exchange(int low, int high) {
            long more = force[high] - force[low];
            for (int lane = 0; lane < lanes; lane++) {
                int row = lane * Plan.SEATS;
                gap[lane] += more * (lever[row + low] - lever[row + high]);
            }
            int lowForce = force[low];
            force[low] = force[high];
            force[high] = lowForce;
        }

        private void flip(int seat) {
            bits ^= 1 << seat;
            for (int lane = 0; lane < lanes; lane++) {
                int k = lane * Plan.SEATS + seat;
                gap[lane] -= 2 * force[seat] * lever[k];
                lever[k] = -lever[k];
            }
        }
    }

    /** Races ahead. Strengths change with each tenth stroke alone, so a race goes by tens of strokes. */
    private static final class Race {
        private final long[] load = new long[Plan.SEATS];
        private final long[] swings = new long[Lanes.MOST];
        /** The greatest swing in the tens ahead of this one. */
        private final long[] ahead = new long[Lanes.MOST];
        long least = 0;
        int bits = 0;
        int changeAt = 0;
        int oneSeat = 0;
        int otherSeat = 0;

        static long greatest(Crew crew, int strokes) {
            long most = 0;
            for (int ten = firstTen(crew); ten <= lastTen(crew, strokes); ten++) {
                most = Math.max(most, Math.abs(crew.swingAt(1, ten * 10)));
            }
            return most;
        }

        boolean findStillest(Crew crew, Lanes lanes, int strokes) {
            Plan plan = crew.plan;
            setLanes(crew, lanes, strokes);
            boolean found = false;
            int end = 1 << plan.seats;
            for (int b = 0; b < end; b++) {
                if (b > 0) {
                    lanes.advanceTo(b);
                }
                if (plan.allows(b)) {
                    long most = greatestOf(lanes);
                    if (!found || most < least) {
                        found = true;
                        least = most;
                        bits = b;
                    }
                }
            }
            return found;
        }

        boolean findUnderWay(Crew crew, int strokes) {
            if (crew.plan.seats < 2) {
                return false;
            }
            sailAsTheySit(crew, strokes);
            least = NONE;
            for (int low = 0; low < crew.plan.seats; low++) {
                for (int high = low + 1; high < crew.plan.seats; high++) {
                    tryChange(crew, strokes, low, high);
                }
            }
            return true;
        }

        private void sailAsTheySit(Crew crew, int strokes) {
            int tens = lastTen(crew, strokes) - firstTen(crew) + 1;
            long most = 0;
            for (int k = 0; k < tens && k < swings.length; k++) {
                swings[k] = crew.swingAt(1, (firstTen(crew) + k) * 10);
                ahead[k] = most;
                most = Math.max(most, Math.abs(swings[k]));
            }
        }

        /** Of the strokes in one ten the first is never worse than the others, and comes first. */
        private void tryChange(Crew crew, int strokes, int low, int high) {
            int first = firstTen(crew);
            int tens = Math.min(lastTen(crew, strokes) - first + 1, swings.length);
            long lever = crew.leverToSide(1, low) - crew.leverToSide(1, high);
            long behind = 0;
            for (int k = tens - 1; k >= 0; k--) {
                int start = (first + k) * 10;
                long more = crew.forceIn(high, start) - crew.forceIn(low, start);
                behind = Math.max(behind, Math.abs(swings[k] + more * lever));
                long most = Math.max(ahead[k], behind);
                int stroke = Math.max(start, crew.stroke + 1);
                if (least == NONE || most < least || (most == least && stroke < changeAt)) {
                    least = most;
                    changeAt = stroke;
                    oneSeat = low;
                    otherSeat = high;
                }
            }
        }

        private void setLanes(Crew crew, Lanes lanes, int strokes) {
            lanes.clear();
            for (int ten = firstTen(crew); ten <= lastTen(crew, strokes); ten++) {
                for (int s = 0; s < crew.plan.seats; s++) {
                    load[s] = crew.forceIn(s, ten * 10) * crew.plan.leverOf(1, s);
                }
                lanes.add(0, load, crew.plan.seats);
            }
        }

        private static long greatestOf(Lanes lanes) {
            long most = 0;
            for (int lane = 0; lane < lanes.used; lane++) {
                most = Math.max(most, Math.abs(lanes.sum[lane]));
            }
            return most;
        }

        private static int firstTen(Crew crew) {
            return (crew.stroke + 1) / 10;
        }

        private static int lastTen(Crew crew, int strokes) {
            return (crew.stroke + strokes) / 10;
        }
    }

    /** What trial runs tell of strengths and of oars. */
    private static final class Trials {
        private static final int ROWERS = 6;
        private static final int WEAKEST = 1;
        private static final int STRONGEST = 9;
        private static final int MOST_ARM = 99;
        private static final int NEVER = 0;
        private static final int PERHAPS = 1;
        private static final int ALWAYS = 2;

        /** How far each run is off, by the strengths tried so far. */
        private final long[] gap = new long[Plan.RUNS];
        /** What one more of the arm that is tried brings to each run. */
        private final long[] perArm = new long[Plan.RUNS];
        /** What one more of a rower's strength brings to a run: a row of rowers for each run. */
        private final long[] lever = new long[Plan.RUNS * ROWERS];
        /** What the rowers from one on can bring to a run together: a row of rowers for each run. */
        private final long[] lowest = new long[Plan.RUNS * (ROWERS + 1)];
        private final long[] highest = new long[Plan.RUNS * (ROWERS + 1)];
        private final int[] least = new int[ROWERS];
        private final int[] greatest = new int[ROWERS];
        private boolean counted = false;
        private int rows = 0;

        void forget() {
            counted = false;
        }

        static int firstUnfit(Plan plan) {
            for (int run = 0; run < plan.runs; run++) {
                if (Math.abs(gapAsTold(plan, run)) > plan.near) {
                    return run;
                }
            }
            return NONE;
        }

        int told(Plan plan, int rower, int what) {
            if (plan.rowers > ROWERS || !plan.isRower(rower) || rower >= ROWERS || what < 0 || what > 2) {
                return NONE;
            }
            if (!counted) {
                countRows(plan);
                counted = true;
            }
            if (what == 0) {
                return rows;
            }
            if (rows == 0) {
                return NONE;
            }
            return what == 1 ? least[rower] : greatest[rower];
        }

        int crookedSeats(Plan plan) {
            if (firstUnfit(plan) == NONE) {
                return 0;
            }
            for (int run = 0; run < plan.runs; run++) {
                gap[run] = gapAsTold(plan, run);
            }
            int bits = 0;
            for (int s = 0; s < plan.seatedAtFirst(); s++) {
                if (canBeCrooked(plan, s)) {
                    bits |= 1 << s;
                }
            }
            return bits;
        }

        private static long gapAsTold(Plan plan, int run) {
            long sum = -plan.swungOf(run);
            for (int r = 0; r < plan.seatedAtFirst(); r++) {
                sum += plan.runLever(run, r) * plan.strength[r];
            }
            return sum;
        }

        private boolean canBeCrooked(Plan plan, int seat) {
            int arm = plan.arm[seat];
            for (int run = 0; run < plan.runs; run++) {
                perArm[run] = arm == 0 ? 0 : plan.runLever(run, seat) / arm * plan.strength[seat];
            }
            for (int other = 1; other <= MOST_ARM; other++) {
                if (allFitWith(plan, other - arm)) {
                    return true;
                }
            }
            return false;
        }

        private boolean allFitWith(Plan plan, int moreArm) {
            for (int run = 0; run < plan.runs; run++) {
                if (Math.abs(gap[run] + perArm[run] * moreArm) > plan.near) {
                    return false;
                }
            }
            return true;
        }

        private void countRows(Plan plan) {
            Arrays.fill(least, STRONGEST);
            Arrays.fill(greatest, WEAKEST);
            for (int run = 0; run < plan.runs; run++) {
                gap[run] = -plan.swungOf(run);
                setBounds(plan, run);
            }
            rows = rowsFrom(plan, 0);
        }

        private void setBounds(Plan plan, int run) {
            int k = run * (ROWERS + 1) + plan.rowers;
            lowest[k] = 0;
            highest[k] = 0;
            for (int r = plan.rowers - 1; r >= 0; r--) {
                long one = plan.runLever(run, r);
                lever[run * ROWERS + r] = one;
                k--;
                lowest[k] = lowest[k + 1] + Math.min(one * WEAKEST, one * STRONGEST);
                highest[k] = highest[k + 1] + Math.max(one * WEAKEST, one * STRONGEST);
            }
        }

        /** How many rows there are with the strengths tried so far, those from a rower on being free. */
        private int rowsFrom(Plan plan, int rower) {
            int verdict = verdictFrom(plan, rower);
            if (verdict == NEVER) {
                return 0;
            }
            if (verdict == ALWAYS) {
                return allRowsFrom(plan, rower);
            }
            if (rower >= plan.rowers - 1) {
                return rowsOfLast(plan, rower);
            }
            int sum = 0;
            for (int strength = WEAKEST; strength <= STRONGEST; strength++) {
                tryMore(plan, rower, 1);
                int more = rowsFrom(plan, rower + 1);
                if (more > 0) {
                    noteStrengths(rower, strength, strength);
                }
                sum += more;
            }
            tryMore(plan, rower, -STRONGEST);
            return sum;
        }

        private int verdictFrom(Plan plan, int rower) {
            long near = plan.near;
            int verdict = ALWAYS;
            for (int run = 0; run < plan.runs; run++) {
                int k = run * (ROWERS + 1) + rower;
                long low = gap[run] + lowest[k];
                long high = gap[run] + highest[k];
                if (high < -near || low > near) {
                    return NEVER;
                }
                if (low < -near || high > near) {
                    verdict = PERHAPS;
                }
            }
            return verdict;
        }

        private int allRowsFrom(Plan plan, int rower) {
            int all = 1;
            for (int r = rower; r < plan.rowers; r++) {
                noteStrengths(r, WEAKEST, STRONGEST);
                all *= STRONGEST - WEAKEST + 1;
            }
            return all;
        }

        /** The strengths of the last rower that do are those between two bounds: no need to try each. */
        private int rowsOfLast(Plan plan, int rower) {
            long from = WEAKEST;
            long to = STRONGEST;
            for (int run = 0; run < plan.runs; run++) {
                long one = lever[run * ROWERS + rower];
                long sum = one < 0 ? -gap[run] : gap[run];
                long size = Math.abs(one);
                if (size != 0) {
                    from = Math.max(from, -Math.floorDiv(plan.near + sum, size));
                    to = Math.min(to, Math.floorDiv(plan.near - sum, size));
                }
            }
            if (from > to) {
                return 0;
            }
            noteStrengths(rower, (int) from, (int) to);
            return (int) (to - from + 1);
        }

        private void tryMore(Plan plan, int rower, int strength) {
            for (int run = 0; run < plan.runs; run++) {
                gap[run] += lever[run * ROWERS + rower] * strength;
            }
        }

        private void noteStrengths(int rower, int low, int high) {
            if (rower >= 0 && rower < ROWERS) {
                least[rower] = Math.min(least[rower], low);
                greatest[rower] = Math.max(greatest[rower], high);
            }
        }
    }

    /** Even halves: of the places of alike rowers, and of payments for two heirs. */
    private static final class Halves {
        private static final int MOST_SEATS = 40;
        private static final int MOST_LISTED = 16;
        private static final int MOST_DOUBLED = 10;
        private static final int MOST_POWER = 5;
        private static final int HALF = MOST_SEATS / 2;
        private static final int SUMS = MOST_SEATS * (MOST_SEATS + 1) / 4 + 1;

        /** By how many places and their sum: how many sets of places there are so. */
        private final long[] sets = new long[(HALF + 1) * SUMS];
        private final long[] waysBySeats = new long[MOST_SEATS + 1];
        private boolean counted = false;
        private int toSkip = 0;
        private final long[] load = new long[Plan.PAYMENTS];
        int partings = 0;
        int leastParting = NONE;

        long waysFor(int n) {
            if (n < 1 || n > MOST_SEATS) {
                return NONE;
            }
            if (!counted) {
                countWays();
                counted = true;
            }
            return waysBySeats[n];
        }

        private void countWays() {
            sets[0] = 1;
            for (int place = 1; place <= MOST_SEATS; place++) {
                // From the larger sets down, so that no set takes a place twice.
                for (int count = Math.min(place, HALF); count >= 1; count--) {
                    int row = count * SUMS;
                    for (int sum = SUMS - 1; sum >= place; sum--) {
                        sets[row + sum] += sets[row - SUMS + sum - place];
                    }
                }
                if (place % 4 == 0) {
                    waysBySeats[place] = sets[place / 2 * SUMS + place * (place + 1) / 4];
                }
            }
        }

        int wayAt(int n, int k) {
            if (n < 1 || n > MOST_LISTED || n % 4 != 0 || k < 0) {
                return NONE;
            }
            toSkip = k;
            return choose(n, n / 2, n * (n + 1) / 4, 0);
        }

        /** Goes through the sets among places 1 .. place, least bits first, until enough are skipped. */
        private int choose(int place, int count, int sum, int bits) {
            if (place <= 0) {
                toSkip--;
                return toSkip < 0 ? bits : NONE;
            }
            if (canBe(place - 1, count, sum)) {
                int found = choose(place - 1, count, sum, bits);
                if (found != NONE) {
                    return found;
                }
            }
            if (canBe(place - 1, count - 1, sum - place)) {
                return choose(place - 1, count - 1, sum - place, bits | 1 << (place - 1));
            }
            return NONE;
        }

        /** So many of places 1 .. places can have any sum between that of the lowest and that of the highest. */
        private static boolean canBe(int places, int count, int sum) {
            return count >= 0 && count <= places && sum >= count * (count + 1) / 2
                    && sum <= count * (2 * places - count + 1) / 2;
        }

        static long sumDoubled(int k, int p) {
            if (k < 1 || k > MOST_DOUBLED || p < 0 || p > MOST_POWER) {
                return NOTHING;
            }
            long sum = 0;
            for (int i = 0; i < 1 << k; i++) {
                long share = power(i + 1, p);
                sum += Integer.bitCount(i) % 2 == 1 ? share : -share;
            }
            return sum;
        }

        static int stillUpTo(int n, int bits) {
            if (n < 1 || n > MOST_LISTED || bits < 0 || bits >= 1 << n) {
                return NONE;
            }
            for (int p = 0; p <= MOST_POWER; p++) {
                long sum = 0;
                for (int i = 0; i < n; i++) {
                    long share = power(i + 1, p);
                    sum += (bits >> i & 1) == 1 ? share : -share;
                }
                if (sum != 0) {
                    return p - 1;
                }
            }
            return MOST_POWER;
        }

        private static long power(long base, int exponent) {
            long product = 1;
            for (int k = 0; k < exponent; k++) {
                product *= base;
            }
            return product;
        }

        void partPayments(Plan plan, Lanes lanes) {
            lanes.clear();
            addPayments(plan, lanes, false);
            addPayments(plan, lanes, true);
            partings = 0;
            leastParting = NONE;
            int end = 1 << plan.payments;
            for (int bits = 0; bits < end; bits++) {
                if (bits > 0) {
                    lanes.advanceTo(bits);
                }
                if (bits % 2 == 0 && lanes.sum[0] == 0 && lanes.sum[1] == 0) {
                    leastParting = partings == 0 ? bits : leastParting;
                    partings++;
                }
            }
        }

        private void addPayments(Plan plan, Lanes lanes, boolean days) {
            for (int k = 0; k < plan.payments; k++) {
                load[k] = plan.payment(k, days);
            }
            lanes.add(0, load, plan.payments);
        }

        static long heirsApart(Plan plan, int bits, boolean days) {
            if (plan.payments == 0 || bits < 0 || bits >= 1 << plan.payments || bits % 2 == 1) {
                return NOTHING;
            }
            long sum = 0;
            for (int k = 0; k < plan.payments; k++) {
                long payment = plan.payment(k, days);
                sum += (bits >> k & 1) == 1 ? -payment : payment;
            }
            return sum;
        }
    }
}

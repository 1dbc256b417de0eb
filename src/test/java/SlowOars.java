import java.util.ArrayDeque;
import java.util.ArrayList;
import java.util.List;
import java.util.Random;

/** The document once more, word by word and without any haste: what EvenOars is measured against. */
final class SlowOars {
    int[] place = new int[0];
    int[] arm = new int[0];
    int[] strength = new int[0];
    int[] tires = new int[0];
    /** 0 free, 1 left, 2 right. */
    int[] fixed = new int[0];
    int toLeft = -1;
    Long[] wanted = new Long[4];
    int near = 0;
    List<String> runSides = new ArrayList<>();
    List<Integer> runPower = new ArrayList<>();
    List<Integer> runSwung = new ArrayList<>();
    List<Integer> paid = new ArrayList<>();
    List<Integer> paidOn = new ArrayList<>();

    int[] rowerOf = new int[0];
    boolean[] right = new boolean[0];
    int stroke = 0;
    long heading = 0;
    long x = 1;
    ArrayDeque<Object[]> acts = new ArrayDeque<>();

    /** A random boat; its text comes from text(). */
    static SlowOars random(Random random, int mostSeats, int mostRowers) {
        SlowOars slow = new SlowOars();
        int seats = random.nextInt(mostSeats + 1);
        int rowers = random.nextInt(3) == 0 ? random.nextInt(mostRowers + 1) : Math.min(seats, mostRowers);
        int largest = new int[] {3, 12, 99}[random.nextInt(3)];
        slow.place = new int[seats];
        slow.arm = new int[seats];
        slow.fixed = new int[seats];
        List<Integer> places = new ArrayList<>();
        for (int p = 1; p <= (random.nextBoolean() ? 12 : 99); p++) {
            places.add(p);
        }
        for (int s = 0; s < seats; s++) {
            slow.place[s] = places.remove(random.nextInt(places.size()));
            slow.arm[s] = 1 + random.nextInt(largest);
            slow.fixed[s] = random.nextInt(5) == 0 ? 1 + random.nextInt(2) : 0;
        }
        slow.strength = new int[rowers];
        slow.tires = new int[rowers];
        int strongest = new int[] {2, 9, 99}[random.nextInt(3)];
        for (int r = 0; r < rowers; r++) {
            slow.strength[r] = 1 + random.nextInt(strongest);
            slow.tires[r] = random.nextInt(3) == 0 ? 0 : random.nextInt(random.nextBoolean() ? 10 : 3);
        }
        slow.toLeft = random.nextInt(2) == 0 ? -1 : Math.min(12, Math.max(0, seats / 2 - 1 + random.nextInt(3)));
        for (int p = 0; p < 4; p++) {
            if (random.nextInt(2) == 0) {
                slow.wanted[p] = (long) (random.nextInt(3) == 0 ? 0 : random.nextInt(401) - 200);
            }
        }
        slow.near = new int[] {0, 5, 100, 9999}[random.nextInt(4)];
        slow.board();
        slow.makeRuns(random);
        int payments = random.nextInt(4) == 0 ? 0 : 1 + random.nextInt(12);
        for (int k = 0; k < payments; k++) {
            slow.paid.add(1 + random.nextInt(random.nextBoolean() ? 4 : 999));
            slow.paidOn.add(random.nextInt(random.nextBoolean() ? 4 : 1000));
        }
        return slow;
    }

    private void makeRuns(Random random) {
        int runs = place.length == 0 ? 0 : random.nextInt(9);
        int[] hidden = new int[strength.length];
        for (int r = 0; r < hidden.length; r++) {
            hidden[r] = random.nextBoolean() ? strength[r] : 1 + random.nextInt(9);
        }
        int[] arms = arm.clone();
        if (random.nextInt(3) == 0) {
            hidden = strength.clone();
            if (arms.length > 0) {
                arms[random.nextInt(arms.length)] = 1 + random.nextInt(99);
            }
        }
        for (int k = 0; k < runs; k++) {
            int told = 1 + random.nextInt(place.length);
            StringBuilder sides = new StringBuilder();
            for (int s = 0; s < told; s++) {
                sides.append("lrx".charAt(random.nextInt(random.nextInt(3) == 0 ? 3 : 2)));
            }
            int power = random.nextInt(random.nextBoolean() ? 1 : 4);
            long swung = 0;
            for (int s = 0; s < told && s < hidden.length; s++) {
                swung += sideOf(sides.charAt(s)) * hidden[s] * arms[s] * pow(place[s], power);
            }
            swung += random.nextInt(2) == 0 ? 0 : random.nextInt(21) - 10;
            if (Math.abs(swung) <= 99999) {
                runSides.add(sides.toString());
                runPower.add(power);
                runSwung.add((int) swung);
            }
        }
    }

    static int sideOf(char letter) {
        return letter == 'r' ? 1 : letter == 'l' ? -1 : 0;
    }

    /** The text of this boat, its statements in one of the orders that there may be. */
    String text(Random random) {
        StringBuilder text = new StringBuilder();
        for (int s = 0; s <= place.length; s++) {
            for (int k = 0; k < runSides.size(); k++) {
                if (runSides.get(k).length() == s) {
                    text.append("run ").append(runSides.get(k)).append(" power ").append(runPower.get(k));
                    text.append(" swung ").append(signed(runSwung.get(k))).append(";\n");
                }
            }
            if (s < place.length) {
                text.append("seat ").append(place[s]).append(" arm ").append(arm[s]).append(';');
                if (fixed[s] != 0) {
                    if (random.nextInt(4) == 0) {
                        text.append("fix ").append(place[s]).append(fixed[s] == 1 ? " right;" : " left;");
                    }
                    text.append("fix ").append(place[s]).append(fixed[s] == 1 ? " left;" : " right ;");
                }
            }
        }
        for (int r = 0; r < strength.length; r++) {
            text.append("rower ").append((char) ('a' + r)).append(" strength ").append(strength[r]);
            text.append("  tires ").append(tires[r]).append(';');
        }
        if (toLeft != -1) {
            text.append("each ").append(toLeft).append(';');
        }
        for (int p = 0; p < 4; p++) {
            if (wanted[p] != null) {
                text.append("want ").append(p).append(" is").append(signed(wanted[p])).append(';');
            }
        }
        if (near != 0) {
            text.append("near ").append(near).append(';');
        }
        for (int k = 0; k < paid.size(); k++) {
            text.append("pay ").append(paid.get(k)).append(" on ").append(paidOn.get(k)).append(';');
        }
        return text.toString();
    }

    /** Runs must be told in the order of seats: sort them as text() tells them. */
    void orderRuns() {
        List<String> sides = new ArrayList<>();
        List<Integer> powers = new ArrayList<>();
        List<Integer> swungs = new ArrayList<>();
        for (int s = 0; s <= place.length; s++) {
            for (int k = 0; k < runSides.size(); k++) {
                if (runSides.get(k).length() == s) {
                    sides.add(runSides.get(k));
                    powers.add(runPower.get(k));
                    swungs.add(runSwung.get(k));
                }
            }
        }
        runSides = sides;
        runPower = powers;
        runSwung = swungs;
    }

    private static String signed(long number) {
        return number < 0 ? " - " + -number : " " + number;
    }

    void board() {
        rowerOf = new int[place.length];
        right = new boolean[place.length];
        for (int s = 0; s < place.length; s++) {
            rowerOf[s] = s < strength.length ? s : -1;
            right[s] = fixed[s] == 2 || (fixed[s] == 0 && s % 2 == 1);
        }
        stroke = 0;
        heading = 0;
        acts.clear();
    }

    static long pow(long base, int exponent) {
        long product = 1;
        for (int k = 0; k < exponent; k++) {
            product *= base;
        }
        return product;
    }

    int strengthAt(int rower, int at) {
        return rower < 0 ? 0 : Math.max(0, strength[rower] - tires[rower] * (at / 10));
    }

    long swing(int power, int at, int[] who, boolean[] sides) {
        long sum = 0;
        for (int s = 0; s < place.length; s++) {
            long pull = (long) strengthAt(who[s], at) * arm[s] * pow(place[s], power);
            sum += sides[s] ? pull : -pull;
        }
        return sum;
    }

    long swing(int power, int at) {
        return swing(power, at, rowerOf, right);
    }

    long off(int at, int[] who, boolean[] sides) {
        long sum = 0;
        for (int p = 0; p < 4; p++) {
            sum += wanted[p] == null ? 0 : Math.abs(swing(p, at, who, sides) - wanted[p]);
        }
        return sum;
    }

    boolean good(int at, int[] who, boolean[] sides) {
        for (int p = 0; p < 4; p++) {
            if (wanted[p] != null && Math.abs(swing(p, at, who, sides) - wanted[p]) > near) {
                return false;
            }
        }
        return true;
    }

    boolean lawful(boolean[] sides) {
        int left = 0;
        for (int s = 0; s < sides.length; s++) {
            if (fixed[s] == 1 && sides[s] || fixed[s] == 2 && !sides[s]) {
                return false;
            }
            left += sides[s] ? 0 : 1;
        }
        return toLeft == -1 || left == toLeft;
    }

    boolean[] sidesOf(int bits) {
        boolean[] sides = new boolean[place.length];
        for (int s = 0; s < sides.length; s++) {
            sides[s] = (bits >> s & 1) == 1;
        }
        return sides;
    }

    boolean turn(int seat) {
        if (seat < 0 || seat >= place.length || fixed[seat] != 0) {
            return false;
        }
        note();
        right[seat] = !right[seat];
        return true;
    }

    boolean swap(int first, int second) {
        int seats = place.length;
        if (first < 0 || second < 0 || first >= seats || second >= seats || first == second) {
            return false;
        }
        if (rowerOf[first] == -1 && rowerOf[second] == -1) {
            return false;
        }
        note();
        exchange(rowerOf, first, second);
        return true;
    }

    static void exchange(int[] who, int first, int second) {
        int rower = who[first];
        who[first] = who[second];
        who[second] = rower;
    }

    boolean mayPass(int n) {
        return n >= 1 && n <= 200 && (long) stroke + n <= 9999;
    }

    int stroke(int n) {
        if (!mayPass(n)) {
            return -1;
        }
        note();
        stroke += n;
        return stroke;
    }

    int draw(int m) {
        x = (1103515245L * x + 12345) % (1L << 31);
        return (int) ((x / 64) % m);
    }

    long row(int n) {
        if (!mayPass(n)) {
            return EvenOars.NOTHING;
        }
        note();
        for (int k = 0; k < n; k++) {
            stroke++;
            for (int s = 0; s < place.length; s++) {
                if (rowerOf[s] != -1) {
                    int force = Math.max(0, strengthAt(rowerOf[s], stroke) + draw(3) - 1);
                    heading += (right[s] ? 1L : -1L) * force * arm[s] * place[s];
                }
            }
        }
        return heading;
    }

    private void note() {
        acts.addLast(new Object[] {rowerOf.clone(), right.clone(), stroke, heading});
        if (acts.size() > 30) {
            acts.removeFirst();
        }
    }

    boolean undo() {
        if (acts.isEmpty()) {
            return false;
        }
        Object[] before = acts.removeLast();
        rowerOf = (int[]) before[0];
        right = (boolean[]) before[1];
        stroke = (Integer) before[2];
        heading = (Long) before[3];
        return true;
    }

    /** OFF, bits, how many are good; null without lawful sides. */
    long[] nearest(int[] who) {
        long[] best = null;
        int good = 0;
        for (int bits = 0; bits < 1 << place.length; bits++) {
            boolean[] sides = sidesOf(bits);
            if (lawful(sides)) {
                good += good(stroke, who, sides) ? 1 : 0;
                long off = off(stroke, who, sides);
                if (best == null || off < best[0]) {
                    best = new long[] {off, bits, 0};
                }
            }
        }
        if (best != null) {
            best[2] = good;
        }
        return best;
    }

    /** OFF, bits, the rowers in seats 0, 1, ..; null when there is none. */
    long[] seated() {
        if (place.length != strength.length || place.length > 5) {
            return null;
        }
        long[][] best = new long[1][];
        orders(new int[place.length], 0, best);
        return best[0];
    }

    private void orders(int[] who, int seat, long[][] best) {
        if (seat == who.length) {
            long[] near = nearest(who);
            if (near != null && (best[0] == null || near[0] < best[0][0])) {
                best[0] = new long[2 + who.length];
                best[0][0] = near[0];
                best[0][1] = near[1];
                for (int s = 0; s < who.length; s++) {
                    best[0][2 + s] = who[s];
                }
            }
            return;
        }
        for (int r = 0; r < who.length; r++) {
            boolean taken = false;
            for (int s = 0; s < seat; s++) {
                taken |= who[s] == r;
            }
            if (!taken) {
                who[seat] = r;
                orders(who, seat + 1, best);
            }
        }
    }

    int changes() {
        for (int most = 0; most <= 3; most++) {
            if (reaches(most)) {
                return most;
            }
        }
        return -1;
    }

    private boolean reaches(int changes) {
        if (good(stroke, rowerOf, right) && lawful(right)) {
            return true;
        }
        if (changes == 0) {
            return false;
        }
        for (int s = 0; s < place.length; s++) {
            if (fixed[s] == 0) {
                right[s] = !right[s];
                boolean reached = reaches(changes - 1);
                right[s] = !right[s];
                if (reached) {
                    return true;
                }
            }
            for (int t = s + 1; t < place.length; t++) {
                if (rowerOf[s] != -1 || rowerOf[t] != -1) {
                    exchange(rowerOf, s, t);
                    boolean reached = reaches(changes - 1);
                    exchange(rowerOf, s, t);
                    if (reached) {
                        return true;
                    }
                }
            }
        }
        return false;
    }

    long race(int n, int[] who, boolean[] sides) {
        long most = 0;
        for (int at = stroke + 1; at <= stroke + n; at++) {
            most = Math.max(most, Math.abs(swing(1, at, who, sides)));
        }
        return most;
    }

    long[] stillest(int n) {
        long[] best = null;
        for (int bits = 0; bits < 1 << place.length; bits++) {
            boolean[] sides = sidesOf(bits);
            if (lawful(sides)) {
                long most = race(n, rowerOf, sides);
                if (best == null || most < best[0]) {
                    best = new long[] {most, bits};
                }
            }
        }
        return best;
    }

    long[] under(int n) {
        long[] best = null;
        for (int from = stroke + 1; from <= stroke + n; from++) {
            for (int s = 0; s < place.length; s++) {
                for (int t = s + 1; t < place.length; t++) {
                    long most = 0;
                    for (int at = stroke + 1; at <= stroke + n; at++) {
                        int[] who = rowerOf.clone();
                        if (at >= from) {
                            exchange(who, s, t);
                        }
                        most = Math.max(most, Math.abs(swing(1, at, who, right)));
                    }
                    if (best == null || most < best[0]) {
                        best = new long[] {most, from, s, t};
                    }
                }
            }
        }
        return best;
    }

    boolean runFits(int run, int[] strengths, int[] arms) {
        long sum = 0;
        String sides = runSides.get(run);
        for (int s = 0; s < sides.length() && s < strengths.length; s++) {
            sum += (long) sideOf(sides.charAt(s)) * strengths[s] * arms[s] * pow(place[s], runPower.get(run));
        }
        return Math.abs(sum - runSwung.get(run)) <= near;
    }

    int fits(int[] strengths, int[] arms) {
        for (int run = 0; run < runSides.size(); run++) {
            if (!runFits(run, strengths, arms)) {
                return run;
            }
        }
        return -1;
    }

    /** How many rows, and of each rower the least and the greatest strength. */
    int[] strengths() {
        int rowers = strength.length;
        int[] told = new int[1 + 2 * rowers];
        for (int r = 0; r < rowers; r++) {
            told[1 + 2 * r] = 10;
        }
        int[] row = new int[rowers];
        int all = (int) pow(9, rowers);
        for (int k = 0; k < all; k++) {
            int rest = k;
            for (int r = 0; r < rowers; r++) {
                row[r] = 1 + rest % 9;
                rest /= 9;
            }
            if (fits(row, arm) == -1) {
                told[0]++;
                for (int r = 0; r < rowers; r++) {
                    told[1 + 2 * r] = Math.min(told[1 + 2 * r], row[r]);
                    told[2 + 2 * r] = Math.max(told[2 + 2 * r], row[r]);
                }
            }
        }
        return told;
    }

    int crooked() {
        int bits = 0;
        if (fits(strength, arm) == -1) {
            return 0;
        }
        for (int s = 0; s < place.length; s++) {
            for (int other = 1; other <= 99; other++) {
                int[] arms = arm.clone();
                arms[s] = other;
                if (fits(strength, arms) == -1) {
                    bits |= 1 << s;
                }
            }
        }
        return bits;
    }

    long apart(int bits, boolean days) {
        if (paid.isEmpty() || bits < 0 || bits >= 1 << paid.size() || (bits & 1) == 1) {
            return EvenOars.NOTHING;
        }
        long sum = 0;
        for (int k = 0; k < paid.size(); k++) {
            long payment = days ? (long) paid.get(k) * paidOn.get(k) : paid.get(k);
            sum += (bits >> k & 1) == 1 ? -payment : payment;
        }
        return sum;
    }

    /** How many ways, and the least bits. */
    int[] heirs() {
        int[] told = {0, -1};
        for (int bits = 0; bits < 1 << paid.size(); bits += 2) {
            if (apart(bits, false) == 0 && apart(bits, true) == 0) {
                told[0]++;
                told[1] = told[0] == 1 ? bits : told[1];
            }
        }
        return told;
    }

    int[] image() {
        int[] octets = new int[11 + 2 * place.length];
        octets[0] = stroke / 256;
        octets[1] = stroke % 256;
        for (int k = 0; k < 8; k++) {
            octets[2 + k] = (int) (heading >> (56 - 8 * k)) & 255;
        }
        for (int s = 0; s < place.length; s++) {
            octets[10 + 2 * s] = rowerOf[s] + 1;
            octets[11 + 2 * s] = right[s] ? 1 : 0;
        }
        return Tapes.sealed(octets);
    }
}

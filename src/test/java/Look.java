/** All of an EvenOars that calls can tell without changing it, but its refusals, its fault and its tape. */
final class Look {
    private Look() {
    }

    interface Call {
        boolean on(EvenOars oars);
    }

    static String at(EvenOars oars) {
        StringBuilder seen = new StringBuilder();
        for (int k = 0; k <= 10; k++) {
            add(seen, oars.boat(k));
        }
        int seats = oars.boat(0);
        int rowers = oars.boat(1);
        for (int s = 0; s < seats; s++) {
            for (int k = 0; k <= 5; k++) {
                add(seen, oars.seat(s, k));
            }
        }
        for (int r = 0; r < rowers; r++) {
            // Not all letters: an object may be asked 512 times.
            for (int k = 0; k <= 5 && (r == 0 || r == rowers - 1); k++) {
                add(seen, oars.letter(r, k));
            }
            for (int k = 0; k <= 3; k++) {
                add(seen, oars.rower(r, k));
            }
        }
        for (int p = 0; p <= 3; p++) {
            add(seen, oars.want(p));
            add(seen, oars.swing(p, 77));
        }
        long[] others = {oars.off(), oars.good(), oars.lawful(), oars.heading(), oars.fits(), oars.crooked(),
            oars.strengths(0, 0), oars.strengths(0, 1), oars.heirs(0), oars.heirs(1), oars.apart(0, true)};
        for (long other : others) {
            add(seen, other);
        }
        for (int k = 0; k <= 11 + 2 * seats; k++) {
            add(seen, oars.octet(k));
        }
        return seen.toString();
    }

    private static void add(StringBuilder seen, long number) {
        seen.append(number).append(' ');
    }

    /** A call that is to be refused, by a number of status(): it counts there alone, and all stays. */
    static void refused(int promise, String which, int by, EvenOars oars, Call call) {
        int[] counted = new int[6];
        for (int k = 0; k < 6; k++) {
            counted[k] = oars.status(k) + (k == by ? 1 : 0);
        }
        String before = at(oars);
        Check.edge(promise, which, call.on(oars), true);
        for (int k = 0; k < 6; k++) {
            Check.edge(promise, which + ": refused (" + by + "), status(" + k + ")", oars.status(k), counted[k]);
        }
        Check.edge(promise, which + ": all stays", at(oars).equals(before), true);
    }
}

/** Boundary cases of promises 22 to 25: alike rowers. */
final class EdgesOfAlike {
    private static final int NONE = EvenOars.NONE;
    private static final long NOTHING = EvenOars.NOTHING;
    private static final int LARGEST = Integer.MAX_VALUE;
    private static final int SMALLEST = Integer.MIN_VALUE;

    private EdgesOfAlike() {
    }

    static void run() {
        waysOfOthers();
        waysNone();
        waysLeastAndMost();
        madeOfOthers();
        madeFirstAndLast();
        doubledOfOthers();
        doubledLeastAndMost();
        stillOfOthers();
        stillLeastAndMost();
    }

    // Promise 22: NONE for others than 1 .. 40.
    private static void waysOfOthers() {
        EvenOars oars = new EvenOars();
        for (int n : new int[] {0, -1, -4, 41, 44, 64, LARGEST, SMALLEST}) {
            Check.edge(22, "others: " + n, oars.ways(n), NONE);
        }
    }

    // Promise 22: no WAYS at all, which is 0: as many to each side can't be, or sums can't be alike.
    private static void waysNone() {
        EvenOars oars = new EvenOars();
        for (int n = 1; n <= 40; n++) {
            Check.edge(22, "none: " + n, oars.ways(n) == 0, n % 4 != 0);
        }
    }

    // Promise 22: the least and the most SEATS, asked in any order.
    private static void waysLeastAndMost() {
        Check.edge(22, "40 SEATS", new EvenOars().ways(40), chosen(40));
        EvenOars oars = new EvenOars();
        Check.edge(22, "1 SEAT", oars.ways(1), 0);
        Check.edge(22, "4 SEATS, the least that have WAYS", oars.ways(4), 2);
        Check.edge(22, "40 SEATS behind these", oars.ways(40), chosen(40));
        Check.edge(22, "36 SEATS behind 40", oars.ways(36), chosen(36));
    }

    /** How many sets of half the places have half their sum, from the greatest place down. */
    private static long chosen(int n) {
        long[][] ways = new long[n + 1][n * (n + 1) / 2 + 1];
        ways[0][0] = 1;
        for (int place = n; place >= 1; place--) {
            for (int count = n; count >= 1; count--) {
                for (int sum = ways[0].length - 1; sum >= place; sum--) {
                    ways[count][sum] += ways[count - 1][sum - place];
                }
            }
        }
        return ways[n / 2][n * (n + 1) / 4];
    }

    // Promise 23: NONE when there is none such: SEATS 1 .. 16, k from 0 to the number of WAYS.
    private static void madeOfOthers() {
        EvenOars oars = new EvenOars();
        for (int n : new int[] {0, -1, -4, 17, 20, 32, 40, LARGEST, SMALLEST}) {
            Check.edge(23, "no such SEATS: " + n, oars.made(n, 0), NONE);
        }
        for (int n = 1; n <= 16; n++) {
            Check.edge(23, "k below 0: " + n, oars.made(n, -1), NONE);
            Check.edge(23, "the smallest k: " + n, oars.made(n, SMALLEST), NONE);
            Check.edge(23, "the largest k: " + n, oars.made(n, LARGEST), NONE);
            Check.edge(23, "k just behind the last: " + n, oars.made(n, (int) oars.ways(n)), NONE);
        }
    }

    // Promise 23: the first and the last one.
    private static void madeFirstAndLast() {
        EvenOars oars = new EvenOars();
        int[] first = {0b0110, 0b0011_1100, 0, 0};
        for (int n = 4; n <= 16; n += 4) {
            int least = NONE;
            int most = NONE;
            int count = 0;
            for (int bits = 0; bits < 1 << n; bits++) {
                int sum = 0;
                for (int place = 1; place <= n; place++) {
                    sum += (bits >> (place - 1) & 1) == 1 ? place : -place;
                }
                if (sum == 0 && 2 * Integer.bitCount(bits) == n) {
                    least = least == NONE ? bits : least;
                    most = bits;
                    count++;
                }
            }
            Check.edge(23, "as many as WAYS: " + n, oars.ways(n), count);
            Check.edge(23, "the first one, the least bits: " + n, oars.made(n, 0), least);
            Check.edge(23, "the last one: " + n, oars.made(n, count - 1), most);
            if (n <= 8) {
                Check.edge(23, "place 1 is the lowest bit: " + n, least, first[n / 4 - 1]);
            }
        }
    }

    // Promise 24: NOTHING for others than 1 .. 10 and 0 .. 5.
    private static void doubledOfOthers() {
        EvenOars oars = new EvenOars();
        for (int other : new int[] {0, -1, 11, 31, 32, 33, 63, 64, LARGEST, SMALLEST}) {
            Check.edge(24, "so many times: " + other, oars.doubled(other, 0), NOTHING);
            Check.edge(24, "so many times: " + other, oars.doubled(other, 5), NOTHING);
        }
        for (int other : new int[] {-1, 6, LARGEST, SMALLEST}) {
            Check.edge(24, "such a power: " + other, oars.doubled(1, other), NOTHING);
            Check.edge(24, "such a power: " + other, oars.doubled(10, other), NOTHING);
        }
    }

    // Promise 24: once and ten times, powers 0 and 5; 0 below the power that doubling reaches.
    private static void doubledLeastAndMost() {
        EvenOars oars = new EvenOars();
        Check.edge(24, "once, power 0", oars.doubled(1, 0), 0);
        Check.edge(24, "once, power 1: the second place less the first", oars.doubled(1, 1), 1);
        Check.edge(24, "once, power 5", oars.doubled(1, 5), 31);
        Check.edge(24, "ten times, power 0", oars.doubled(10, 0), 0);
        Check.edge(24, "ten times, power 5", oars.doubled(10, 5), 0);
        long factorial = 1;
        for (int k = 1; k <= 5; k++) {
            factorial *= k;
            Check.edge(24, "just still: " + k, oars.doubled(k, k - 1), 0);
            // All sums below vanish, so that of power k is k! times the product of the doublings' steps.
            long steps = 1L << (k * (k - 1) / 2);
            Check.edge(24, "just not still: " + k, oars.doubled(k, k), (k % 2 == 1 ? 1 : -1) * factorial * steps);
        }
    }

    // Promise 25: NONE when there are none such: SEATS 1 .. 16, bits of these alone.
    private static void stillOfOthers() {
        EvenOars oars = new EvenOars();
        for (int n : new int[] {0, -1, -16, 17, 31, 32, 33, 64, LARGEST, SMALLEST}) {
            Check.edge(25, "no such SEATS: " + n, oars.still(n, 0), NONE);
            Check.edge(25, "no such SEATS: " + n, oars.still(n, 9), NONE);
        }
        for (int n = 1; n <= 16; n++) {
            int balanced = (1 << n / 2) - 1;
            Check.edge(25, "no such sides, just too large: " + n, oars.still(n, 1 << n), NONE);
            Check.edge(25, "no such sides, a bit too many: " + n, oars.still(n, 1 << n | balanced), NONE);
            Check.edge(25, "no such sides, the highest bit: " + n, oars.still(n, SMALLEST | balanced), NONE);
            Check.edge(25, "no such sides, below 0: " + n, oars.still(n, -1), NONE);
            Check.edge(25, "no such sides, below 0: " + n, oars.still(n, balanced - (1 << n)), NONE);
            Check.edge(25, "no such sides, the largest: " + n, oars.still(n, LARGEST), NONE);
        }
    }

    // Promise 25: not even power 0; just power 0; as far as SEATS up to 16 come (that is power 3).
    private static void stillLeastAndMost() {
        EvenOars oars = new EvenOars();
        for (int n = 1; n <= 16; n++) {
            Check.edge(25, "none to the right: " + n, oars.still(n, 0), NONE);
            Check.edge(25, "all to the right: " + n, oars.still(n, (1 << n) - 1), NONE);
            int low = n == 2 ? 0 : oars.still(n, (1 << n / 2) - 1);
            Check.edge(25, "the lower half to the right: " + n, low, n % 2 == 0 ? 0 : NONE);
        }
        Check.edge(25, "two SEATS, just power 0", oars.still(2, 1), 0);
        Check.edge(25, "two SEATS, just power 0", oars.still(2, 2), 0);
        Check.edge(25, "DOUBLED twice: power 1", oars.still(4, 0b0110), 1);
        Check.edge(25, "DOUBLED thrice: power 2", oars.still(8, 0b1001_0110), 2);
        Check.edge(25, "DOUBLED four times: power 3", oars.still(16, 0b0110_1001_1001_0110), 3);
        Check.edge(25, "the other way round", oars.still(16, 0b1001_0110_0110_1001), 3);
        int most = NONE;
        EvenOars all = oars;
        for (int bits = 0; bits < 1 << 16; bits++) {
            all = bits % 512 == 0 ? new EvenOars() : all;
            most = Math.max(most, all.still(16, bits));
        }
        Check.edge(25, "the most of 16 SEATS", most, 3);
    }
}

import java.util.Random;

/** Random boats and random acts: every answer beside that of SlowOars. */
public final class AgainstSlowTests {
    private static final long NOTHING = EvenOars.NOTHING;

    private AgainstSlowTests() {
    }

    public static void main(String[] args) {
        for (int run = 0; run < 800 && !Check.anyWrong(); run++) {
            oneRun(run, new Random(run), 6, 6);
        }
        for (int run = 0; run < 400 && !Check.anyWrong(); run++) {
            oneRun(run, new Random(10000 + run), 5, 4);
        }
        for (int run = 0; run < 60 && !Check.anyWrong(); run++) {
            oneRun(run, new Random(20000 + run), 12, 12);
        }
        Check.done("AgainstSlowTests");
    }

    /** Few steps, and a part of the state behind each: an object is used for at most 512 calls. */
    private static void oneRun(int run, Random random, int seats, int rowers) {
        SlowOars slow = SlowOars.random(random, seats, rowers);
        slow.orderRuns();
        EvenOars oars = new EvenOars();
        String text = slow.text(random);
        if (text.length() > 1600) {
            return;
        }
        String at = "run " + run + " of " + text + "\n ";
        int semicolons = text.length() - text.replace(";", "").length();
        if (semicolons > 70) {
            return;
        }
        Check.same(at + "text", Tapes.text(oars, text), semicolons);
        compareStill(at, oars, slow, random);
        for (int step = 0; step < 6; step++) {
            String act = at + act(oars, slow, random) + " ";
            compareState(act, oars, slow, random);
            if (step % 3 == 0) {
                compareSearches(act, oars, slow, random);
            }
        }
    }

    private static String act(EvenOars oars, SlowOars slow, Random random) {
        int a = random.nextInt(slow.place.length + 2) - 1;
        int b = random.nextInt(slow.place.length + 2) - 1;
        int n = random.nextInt(6) == 0 ? random.nextInt(260) : 1 + random.nextInt(15);
        switch (random.nextInt(7)) {
            case 0:
                Check.same("turn", oars.turn(a), slow.turn(a));
                return "turn " + a;
            case 1:
            case 2:
                Check.same("swap", oars.swap(a, b), slow.swap(a, b));
                return "swap " + a + " " + b;
            case 3:
                Check.same("stroke", oars.stroke(n), slow.stroke(n));
                return "stroke " + n;
            case 4:
                Check.same("row", oars.row(n), slow.row(n));
                return "row " + n;
            case 5:
                Check.same("undo", oars.undo(), slow.undo());
                return "undo";
            default:
                int seed = random.nextInt() >>> 1;
                Check.same("seed", oars.seed(seed), true);
                slow.x = seed;
                return "seed " + seed;
        }
    }

    private static void compareStill(String at, EvenOars oars, SlowOars slow, Random random) {
        Check.same(at + "fits", oars.fits(), slow.fits(slow.strength, slow.arm));
        Check.same(at + "crooked", oars.crooked(), slow.crooked());
        if (slow.strength.length > 6) {
            Check.same(at + "strengths", oars.strengths(0, 0), -1);
        } else if (slow.strength.length < 6 || slow.near % 2 == 0) {
            int[] told = slow.strengths();
            for (int r = 0; r < slow.strength.length; r++) {
                boolean none = told[0] == 0;
                Check.same(at + "strengths " + r + " 0", oars.strengths(r, 0), told[0]);
                Check.same(at + "strengths " + r + " 1", oars.strengths(r, 1), none ? -1 : told[1 + 2 * r]);
                Check.same(at + "strengths " + r + " 2", oars.strengths(r, 2), none ? -1 : told[2 + 2 * r]);
            }
        }
        int[] heirs = slow.paid.isEmpty() ? new int[] {-1, -1} : slow.heirs();
        Check.same(at + "heirs 0", oars.heirs(0), heirs[0]);
        Check.same(at + "heirs 1", oars.heirs(1), heirs[1]);
        for (int k = 0; k < 4; k++) {
            int bits = random.nextInt(40) - 1;
            Check.same(at + "apart " + bits, oars.apart(bits, false), slow.apart(bits, false));
            Check.same(at + "apart " + bits, oars.apart(bits, true), slow.apart(bits, true));
        }
    }

    private static void compareState(String at, EvenOars oars, SlowOars slow, Random random) {
        Check.same(at + "stroke", oars.boat(8), slow.stroke);
        Check.same(at + "acts", oars.boat(9), slow.acts.size());
        Check.same(at + "heading", oars.heading(), slow.heading);
        Check.same(at + "off", oars.off(), slow.off(slow.stroke, slow.rowerOf, slow.right));
        Check.same(at + "good", oars.good() == 1, slow.good(slow.stroke, slow.rowerOf, slow.right));
        Check.same(at + "lawful", oars.lawful() == 1, slow.lawful(slow.right));
        int there = random.nextInt(400);
        int p = random.nextInt(4);
        Check.same(at + "want", oars.want(p), slow.wanted[p] == null ? NOTHING : slow.wanted[p]);
        Check.same(at + "swing", oars.swing(p, slow.stroke), slow.swing(p, slow.stroke));
        Check.same(at + "swing", oars.swing(p, there), slow.swing(p, there));
        int left = 0;
        for (boolean right : slow.right) {
            left += right ? 0 : 1;
        }
        Check.same(at + "left", oars.boat(10), left);
        if (slow.place.length > 0) {
            compareSeat(at, oars, slow, random.nextInt(slow.place.length));
        }
        if (slow.strength.length > 0) {
            int r = random.nextInt(slow.strength.length);
            Check.same(at + "rower", oars.rower(r, 2), slow.strengthAt(r, slow.stroke));
        }
        int[] image = slow.image();
        Check.same(at + "image", oars.image(), image.length);
        for (int k = 0; k < image.length; k++) {
            Check.same(at + "octet " + k, oars.octet(k), image[k]);
        }
    }

    private static void compareSeat(String at, EvenOars oars, SlowOars slow, int s) {
        Check.same(at + "seat", oars.seat(s, 0), slow.place[s]);
        Check.same(at + "seat", oars.seat(s, 1), slow.arm[s]);
        Check.same(at + "seat", oars.seat(s, 2), slow.rowerOf[s]);
        Check.same(at + "seat", oars.seat(s, 3) == 1, slow.right[s]);
        Check.same(at + "seat", oars.seat(s, 4) == 1, slow.fixed[s] != 0);
        int force = slow.strengthAt(slow.rowerOf[s], slow.stroke);
        Check.same(at + "seat", oars.seat(s, 5), (long) force * slow.arm[s]);
        if (slow.rowerOf[s] != -1) {
            Check.same(at + "rower", oars.rower(slow.rowerOf[s], 3), s);
        }
    }

    private static void compareSearches(String at, EvenOars oars, SlowOars slow, Random random) {
        boolean small = slow.place.length <= 6;
        long[] nearest = slow.nearest(slow.rowerOf);
        for (int what = 0; what < 3; what++) {
            Check.same(at + "nearest " + what, oars.nearest(what), nearest == null ? -1 : nearest[what]);
        }
        long[] seated = slow.seated();
        Check.same(at + "seated off", oars.seated(-1), seated == null ? -1 : seated[0]);
        Check.same(at + "seated bits", oars.seated(20), seated == null ? -1 : seated[1]);
        for (int s = 0; s < slow.place.length; s++) {
            Check.same(at + "seated " + s, oars.seated(s), seated == null ? -1 : seated[2 + s]);
        }
        if (small || random.nextInt(8) == 0) {
            Check.same(at + "changes", oars.changes(), slow.changes());
        }
        int n = 1 + random.nextInt(small ? 60 : 25);
        Check.same(at + "race " + n, oars.race(n), slow.race(n, slow.rowerOf, slow.right));
        long[] stillest = slow.stillest(n);
        Check.same(at + "stillest", oars.stillest(n, 0), stillest == null ? -1 : stillest[0]);
        Check.same(at + "stillest", oars.stillest(n, 1), stillest == null ? -1 : stillest[1]);
        long[] under = slow.under(n);
        for (int what = 0; what < 4; what++) {
            Check.same(at + "under " + n + " " + what, oars.under(n, what), under == null ? -1 : under[what]);
        }
    }
}

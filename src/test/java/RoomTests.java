import java.lang.management.ManagementFactory;
import java.util.ArrayList;
import java.util.List;

/** Calls make no objects (all calls of a run share one room), and none takes long. */
public final class RoomTests {
    private static final com.sun.management.ThreadMXBean THREADS =
            (com.sun.management.ThreadMXBean) ManagementFactory.getThreadMXBean();
    private static final long MOST_BYTES_MADE = 250000;
    private static final long MOST_MICROSECONDS = 4000000;

    private RoomTests() {
    }

    private interface Call {
        void run(EvenOars oars);
    }

    private static final List<String> NAMES = new ArrayList<>();
    private static final List<Call> CALL = new ArrayList<>();

    private static void add(String name, Call call) {
        NAMES.add(name);
        CALL.add(call);
    }

    public static void main(String[] args) {
        long before = bytes();
        EvenOars first = new EvenOars();
        long made = bytes() - before;
        Check.that("a new object takes " + made + " bytes", made < MOST_BYTES_MADE);
        Check.same("is new", first.boat(0), 0);
        calls();
        for (int k = 0; k < CALL.size(); k++) {
            measure(NAMES.get(k), CALL.get(k), args.length > 0);
        }
        Check.that("every call is here", CALL.size() >= 41);
        Check.done("RoomTests");
    }

    /** The machine makes some objects of its own when code is new to it: the least of three tries counts. */
    private static void measure(String name, Call call, boolean loud) {
        long made = Long.MAX_VALUE;
        long micros = Long.MAX_VALUE;
        for (int k = 0; k < 3; k++) {
            EvenOars oars = prepared(name);
            long before = bytes();
            long start = System.nanoTime();
            call.run(oars);
            micros = Math.min(micros, (System.nanoTime() - start) / 1000);
            made = Math.min(made, bytes() - before);
        }
        Check.that(name + " made " + made + " bytes", made == 0);
        Check.that(name + " took " + micros + " us", micros < MOST_MICROSECONDS);
        if (loud) {
            System.out.println(micros + " us: " + name);
        }
    }

    private static EvenOars prepared(String name) {
        EvenOars oars = Tapes.boat(name.equals("five seated") ? fiveSeats() : largeBoat());
        if (name.equals("text")) {
            Tapes.put(oars, largeBoat());
        } else if (name.equals("on")) {
            Tapes.put(oars, Tapes.image(oars));
        } else {
            Tapes.put(oars, longQuestion());
        }
        return oars;
    }

    private static long bytes() {
        return THREADS.getThreadAllocatedBytes(Thread.currentThread().getId());
    }

    /** Twelve seats, six rowers, no way to be good: each search goes its whole way. */
    private static String largeBoat() {
        StringBuilder text = new StringBuilder();
        for (int s = 0; s < 12; s++) {
            text.append("seat ").append(1 + s * 7).append(" arm ").append(3 + s * 5 % 17).append(';');
        }
        for (int r = 0; r < 6; r++) {
            text.append("rower ").append((char) ('a' + r)).append(" strength ").append(9 - r);
            text.append(" tires 0;");
        }
        text.append("want 0 is 9999;want 1 is -9999;want 2 is 1;want 3 is 2;near 300;");
        for (int k = 0; k < 8; k++) {
            text.append("run rlrlrlxxxxxx power ").append(k % 2).append(" swung ").append(10 * k).append(';');
        }
        for (int k = 0; k < 12; k++) {
            text.append("pay 7 on 5;");
        }
        return text.toString();
    }

    private static String fiveSeats() {
        StringBuilder text = new StringBuilder("want 0 is 1;want 1 is 2;want 2 is 3;want 3 is 4;");
        for (int s = 0; s < 5; s++) {
            text.append("seat ").append(1 + s * 7).append(" arm ").append(3 + s * 5 % 17).append(';');
            text.append("rower ").append((char) ('a' + s)).append(" strength ").append(9 - s).append(" tires 1;");
        }
        return text.toString();
    }

    private static String longQuestion() {
        StringBuilder text = new StringBuilder("total stroke");
        while (text.length() < 1580) {
            text.append("+swing 3*off");
        }
        return text.toString();
    }

    private static void calls() {
        add("feed", x -> x.feed(1, 2, 3, 4, 5));
        add("end", x -> x.end(7));
        add("text", EvenOars::text);
        add("fault", x -> x.fault(0));
        add("boat", x -> x.boat(4));
        add("letter", x -> x.letter(0, 0));
        add("seat", x -> x.seat(0, 5));
        add("rower", x -> x.rower(0, 3));
        add("want", x -> x.want(0));
        add("swing", x -> x.swing(3, 9999));
        add("off", EvenOars::off);
        add("good", EvenOars::good);
        add("lawful", EvenOars::lawful);
        add("heading", EvenOars::heading);
        add("turn", x -> x.turn(0));
        add("swap", x -> x.swap(0, 1));
        add("stroke", x -> x.stroke(200));
        add("row", x -> x.row(200));
        add("undo", EvenOars::undo);
        add("seed", x -> x.seed(5));
        add("ways", x -> x.ways(40));
        add("made", x -> x.made(16, 10000));
        add("doubled", x -> x.doubled(10, 5));
        add("still", x -> x.still(16, 38505));
        add("nearest", x -> x.nearest(1));
        add("seated", x -> x.seated(20));
        add("changes", EvenOars::changes);
        add("race", x -> x.race(300));
        add("stillest", x -> x.stillest(300, 1));
        add("under", x -> x.under(100, 1));
        add("fits", EvenOars::fits);
        add("strengths", x -> x.strengths(0, 0));
        add("crooked", EvenOars::crooked);
        add("heirs", x -> x.heirs(0));
        add("apart", x -> x.apart(2, true));
        add("ask", EvenOars::ask);
        add("image", EvenOars::image);
        add("octet", x -> x.octet(0));
        add("on", EvenOars::on);
        add("status", x -> x.status(0));
        add("five seated", x -> x.seated(20));
    }
}

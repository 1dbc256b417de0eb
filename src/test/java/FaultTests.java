import java.util.Random;

/** Promises 4 and 5: what faults boats' texts have, and where; a text with one changes nothing. */
public final class FaultTests {
    private FaultTests() {
    }

    public static void main(String[] args) {
        table();
        tooMany();
        allStays();
        spoiled();
        Check.done("FaultTests");
    }

    private static void one(String text, int kind, int place) {
        EvenOars oars = new EvenOars();
        int statements = Tapes.text(oars, text);
        Check.same("fault of " + text, oars.fault(0), kind);
        Check.same("its place in " + text, oars.fault(1), place);
        Check.same("refused for " + text, oars.status(1), kind == 0 ? 0 : 1);
        Check.that("statements of " + text, (statements == EvenOars.NONE) == (kind != 0));
        Check.same("the tape went", oars.feed(0, 0, 0, 0, 0), 20);
    }

    private static void table() {
        Object[][] rows = {
            {"", 0, -1}, {" \n ", 0, -1}, {";", 1, 0}, {"near 1;;", 1, 7}, {"near 1", 1, 6}, {"near 1 ", 1, 7},
            {"near", 1, 4}, {"nea", 1, 0}, {"nears 1;", 1, 0}, {"Near 1;", 1, 0}, {"neaR 1;", 1, 0}, {"near1;", 1, 4},
            {"near 1near 2;", 1, 6}, {"near 1;near 2;", 0, -1}, {"near x;", 1, 5}, {"near - 1;", 1, 5},
            {"near 9999;", 0, -1}, {"near 10000;", 2, 5}, {"near 00001;", 0, -1}, {"near 000001;", 1, 10},
            {"near 999999;", 1, 10}, {"near\n1\n;", 0, -1}, {"near\t1;", 1, 4}, {"near\r1;", 1, 4},
            {"near 1\u00e9;", 1, 6}, {"arm 1;", 1, 0}, {"1;", 1, 0}, {"-", 1, 0}, {"123456 ;", 1, 0},
            {"seat 1 arm 1;", 0, -1}, {"seat 0 arm 1;", 2, 5}, {"seat 100 arm 1;", 2, 5}, {"seat 99 arm 99;", 0, -1},
            {"seat 1 arm 0;", 2, 11}, {"seat 1 arm 100;", 2, 11}, {"seat 1 arm ;", 1, 11}, {"seat 1 1;", 1, 7},
            {"seat 1 leg 1;", 1, 7}, {"seat 1arm 1;", 1, 6}, {"seat 1 arm1;", 1, 10}, {"seat 1 arms 1;", 1, 7},
            {"seat 1 arm 1;seat 01 arm 2;", 2, 18}, {"seat 1 arm 1 seat", 1, 13}, {"seat 123456", 1, 10},
            {"seat 1 arm 1;seat 1", 2, 18}, {"seat 1 arm 1;seat 2 arm 1", 1, 25},
            {"rower a strength 1 tires 0;", 0, -1}, {"rower abcdef strength 99 tires 9;", 0, -1},
            {"rower abcdefg strength 1 tires 0;", 1, 12}, {"rower strength strength 1 tires 0;", 1, 6},
            {"rower strengthy strength 1 tires 0;", 1, 12}, {"rower on strength 1 tires 0;", 1, 6},
            {"rower one strength 1 tires 0;", 0, -1}, {"rower x strength 1 tires 0;", 0, -1},
            {"rower 1 strength 1 tires 0;", 1, 6}, {"rower ;", 1, 6}, {"rower", 1, 5}, {"rower a", 1, 7},
            {"rower A strength 1 tires 0;", 1, 6}, {"rower aB strength 1 tires 0;", 1, 7},
            {"rower a1 strength 1 tires 0;", 1, 7}, {"rower a strength 0 tires 0;", 2, 17},
            {"rower a strength 100 tires 0;", 2, 17}, {"rower a strength 1 tires 10;", 2, 25},
            {"rower a strength 1;", 1, 18}, {"rower a strength 1 tires 1;rower a", 3, 33},
            {"rower ab strength 1 tires 1;rower a strength 1 tires 1;", 0, -1},
            {"rower a strength 1 tires 1;rower ab strength 1 tires 1;rower ab1", 3, 61},
            {"rower abcdef strength 1 tires 1;rower abcdefg", 1, 44}, {"each 0;", 0, -1}, {"each 12;", 0, -1},
            {"each 13;", 2, 5}, {"each;", 1, 4}, {"fix 1 left;", 2, 4}, {"fix;", 1, 3},
            {"seat 1 arm 1;fix 1 left;", 0, -1}, {"seat 1 arm 1;fix 01 right;fix 1 left;", 0, -1},
            {"seat 1 arm 1;fix 2 left;", 2, 17}, {"seat 1 arm 1;fix 0 left;", 2, 17},
            {"seat 1 arm 1;fix 1 up;", 1, 19}, {"seat 1 arm 1;fix 1left;", 1, 18}, {"seat 1 arm 1;fix 1;", 1, 18},
            {"fix 2 left;seat 2 arm 1;", 2, 4}, {"want 0 is 0;", 0, -1}, {"want 3 is 9999;", 0, -1},
            {"want 4 is 0;", 2, 5}, {"want 0 is 10000;", 2, 10}, {"want 0 is -9999;", 0, -1},
            {"want 0 is -10000;", 2, 10}, {"want 0 is - 10000;", 2, 10}, {"want 0 is-0;", 0, -1},
            {"want 0 is\n-\n5;", 0, -1}, {"want 0 is --5;", 1, 11}, {"want 0 is +5;", 1, 10}, {"want 0 is -;", 1, 11},
            {"want 0 is -x;", 1, 11}, {"want 0 is - 123456;", 1, 17}, {"want 0 is 5-;", 1, 11}, {"want 0 is", 1, 9},
            {"want 0 is -", 1, 11}, {"want -1 is 0;", 1, 5}, {"want 0 0;", 1, 7}, {"want 0is 0;", 1, 6},
            {"want 0 is0;", 1, 9}, {"seat 1 arm 1;run l power 0 swung 99999;", 0, -1},
            {"seat 1 arm 1;run x power 3 swung -99999;", 0, -1}, {"seat 1 arm 1;run r power 4 swung 0;", 2, 25},
            {"seat 1 arm 1;run rl power 0 swung 0;", 1, 17}, {"seat 1 arm 1;run q power 0 swung 0;", 1, 17},
            {"seat 1 arm 1;run power 0 swung 0;", 1, 17}, {"seat 1 arm 1;run 1 power 0 swung 0;", 1, 17},
            {"seat 1 arm 1;run R power 0 swung 0;", 1, 17}, {"seat 1 arm 1;run r power 0 swung 123456;", 1, 38},
            {"seat 1 arm 1;run l1 power 0 swung 0;", 1, 18}, {"seat 1 arm 1;run", 1, 16},
            {"seat 1 arm 1;seat 2 arm 1;run l power 0 swung 0;", 1, 30}, {"run l power 0 swung 0;", 1, 4},
            {"run power 0 swung 0;", 1, 4}, {"run", 1, 3}, {"pay 1 on 0;", 0, -1}, {"pay 999 on 999;", 0, -1},
            {"pay 0 on 0;", 2, 4}, {"pay 1000 on 0;", 2, 4}, {"pay 1 on 1000;", 2, 9}, {"pay 1 0;", 1, 6},
            {"pay 1on 0;", 1, 5}, {"pay", 1, 3},
        };
        for (Object[] row : rows) {
            one((String) row[0], (Integer) row[1], (Integer) row[2]);
            SlowText slow = new SlowText((String) row[0]);
            Check.same("slow fault of " + row[0], slow.kind, (Integer) row[1]);
            Check.same("slow place in " + row[0], slow.place, (Integer) row[2]);
        }
    }

    private static void tooMany() {
        StringBuilder seats = new StringBuilder();
        StringBuilder rowers = new StringBuilder();
        StringBuilder payments = new StringBuilder();
        for (int k = 1; k <= 12; k++) {
            seats.append("seat ").append(k).append(" arm 1;");
            rowers.append("rower ").append((char) ('a' + k)).append(" strength 1 tires 0;");
            payments.append("pay 1 on 0;");
        }
        one(seats.toString(), 0, -1);
        one(seats + " seat", 5, seats.length() + 1);
        one(seats + "seat 1 arm", 5, seats.length());
        one(seats + "seat5", 5, seats.length());
        one(seats + "seats", 1, seats.length());
        one(rowers.toString(), 0, -1);
        one(rowers + "rower b", 5, rowers.length());
        one(payments.toString(), 0, -1);
        one(payments + "\npay 0", 5, payments.length() + 1);
        String runs = "seat 1 arm 1;" + "run l power 0 swung 1;".repeat(8);
        one(runs, 0, -1);
        one(runs + "run", 5, runs.length());
        String many = "near 1;".repeat(70);
        one(many, 0, -1);
        one(many + " \n", 0, -1);
        one(many + " near 2;", 5, many.length() + 1);
        one(many + "?", 5, many.length());
        one(many + ";", 5, many.length());
        one("near 1;".repeat(69) + "?", 1, many.length() - 7);
        EvenOars oars = new EvenOars();
        Check.same("70 statements", Tapes.text(oars, many), 70);
        Check.same("none", Tapes.text(oars, ""), 0);
    }

    private static void allStays() {
        EvenOars oars = Tapes.boat("seat 3 arm 4;seat 5 arm 6;rower abc strength 7 tires 1;rower b strength 2 tires 3;"
                + "each 1;fix 5 right;want 1 is -5;near 9;run lr power 1 swung 4;pay 3 on 2;");
        oars.turn(0);
        oars.swap(0, 1);
        oars.row(15);
        int[] image = Tapes.image(oars);
        long[] before = look(oars);
        Check.same("a fault", Tapes.text(oars, "seat 1 arm 1;rower c strength 9 tires 0;each 4;want 1 is 3;near 1;"
                + "pay 5 on 5;run l power 0 swung 1;fix 1 left;x"), EvenOars.NONE);
        Check.same("refused", oars.status(1), 1);
        long[] behind = look(oars);
        for (int k = 0; k < before.length; k++) {
            Check.same("row " + k + " of what stays", behind[k], before[k]);
        }
        for (int k = 0; k < image.length; k++) {
            Check.same("the image stays", oars.octet(k), image[k]);
        }
        Check.that("acts stay", oars.undo() && oars.undo() && oars.undo() && !oars.undo());
        Check.same("no fault", Tapes.text(oars, "near 3;"), 1);
        Check.same("a new boat", oars.boat(0), 0);
        Check.same("a new boat", oars.boat(8), 0);
        Check.same("a new boat", oars.boat(2), EvenOars.NONE);
        Check.same("a new boat", oars.want(1), EvenOars.NOTHING);
        Check.same("fault told anew", oars.fault(0), 0);
        Check.same("fault told anew", oars.fault(1), EvenOars.NONE);
        Check.same("the image stays", oars.octet(14), image[14]);
    }

    private static long[] look(EvenOars oars) {
        long[] seen = new long[60];
        for (int k = 0; k < 11; k++) {
            seen[k] = oars.boat(k);
        }
        for (int k = 0; k < 6; k++) {
            seen[11 + k] = oars.letter(0, k);
            seen[17 + k] = oars.seat(0, k);
            seen[23 + k] = oars.seat(1, k);
        }
        for (int k = 0; k < 4; k++) {
            seen[30 + k] = oars.rower(0, k);
            seen[34 + k] = oars.rower(1, k);
            seen[38 + k] = oars.want(k);
            seen[42 + k] = oars.swing(k, 7);
        }
        seen[46] = oars.heading();
        seen[47] = oars.strengths(0, 0);
        seen[48] = oars.strengths(0, 1);
        seen[49] = oars.fits();
        seen[50] = oars.heirs(0);
        seen[51] = oars.apart(0, true);
        return seen;
    }

    /** Texts without a fault, spoiled at random, beside SlowText. */
    private static void spoiled() {
        String signs = "abclrx0123459;- \n-;x.A";
        for (int run = 0; run < 4000 && !Check.anyWrong(); run++) {
            Random random = new Random(run);
            SlowOars slow = SlowOars.random(random, 1 + random.nextInt(12), 12);
            StringBuilder text = new StringBuilder(slow.text(random));
            if (random.nextInt(12) == 0) {
                text.append("near 1;".repeat(40)).append(text).append("near 1;".repeat(random.nextInt(30)));
            }
            for (int k = random.nextInt(4); k > 0 && text.length() > 2; k--) {
                int at = random.nextInt(text.length());
                int end = Math.min(text.length(), at + 1 + random.nextInt(random.nextInt(4) == 0 ? 20 : 2));
                switch (random.nextInt(5)) {
                    case 0: text.delete(at, end); break;
                    case 1: text.insert(at, signs.charAt(random.nextInt(signs.length()))); break;
                    case 2: text.setCharAt(at, signs.charAt(random.nextInt(signs.length()))); break;
                    case 3: text.insert(random.nextInt(text.length()), text.substring(at, end)); break;
                    default: text.setLength(at); break;
                }
            }
            if (text.length() <= 1600) {
                SlowText due = new SlowText(text.toString());
                EvenOars oars = new EvenOars();
                int statements = Tapes.text(oars, text.toString());
                Check.same("statements of " + text, statements, due.kind == 0 ? due.statements : -1);
                Check.same("fault of " + text, oars.fault(0), due.kind);
                Check.same("its place in " + text, oars.fault(1), due.place);
            }
        }
    }
}

/**
 * Promise 4, for all that can be asked: behind a BOAT nothing of the former one counts, however many
 * SEATS, ROWERS, WANTS, RUNS and PAYMENTS that had; and what is asked changes nothing.
 */
final class EdgesInTurn {
    private static final int NONE = EvenOars.NONE;

    private EdgesInTurn() {
    }

    static void run() {
        String[] boats = {
            "",
            "want 3 is -7;near 6;each 0;pay 4 on 4;",
            EdgesOfBoat.greatest("right") + "each 3;near 4;want 0 is 5;want 1 is 6;want 2 is 7;want 3 is 8;"
                + "run rrrrrrrrrrrr power 1 swung 9;",
            twelve() + "want 0 is -3;want 1 is 60;want 2 is 5;want 3 is 9;near 50;run lrlrlrlrlrlr power 1 swung 9;"
                + "run xxxxxxrlrlrl power 0 swung -9;" + "pay 3 on 5;".repeat(12),
            crew(5, 5) + "want 0 is 1;want 1 is -4;want 2 is 9;each 2;fix 3 left;near 2;run rlrlx power 0 swung 11;"
                + "pay 9 on 3;pay 4 on 3;pay 5 on 3;",
            crew(2, 2) + "run rl power 0 swung 5;run lr power 1 swung 9;near 3;",
            crew(3, 6) + "want 1 is 40;run rlr power 0 swung 5;run lrr power 1 swung 3;run xrr power 0 swung 40;near 9;"
                + "pay 7 on 0;pay 7 on 0;",
            crew(3, 3) + "each 3;run rrr power 0 swung 45;near 2;pay 2 on 9;pay 2 on 8;",
            crew(4, 1) + "want 0 is 5;want 2 is 5;fix 2 right;" + "run rxxl power 0 swung 7;".repeat(8) + "near 1;",
            crew(6, 6) + "want 2 is 31;run rlrlrl power 1 swung 5;run llrrxx power 2 swung 44;near 40;each 3;"
                + "pay 1 on 1;pay 2 on 2;pay 3 on 3;pay 4 on 4;pay 5 on 5;pay 6 on 6;pay 7 on 7;pay 8 on 8;",
            crew(1, 2) + "want 0 is 2;run r power 0 swung 1;pay 1 on 1;",
        };
        for (int second = 0; second < boats.length; second++) {
            EvenOars fresh = new EvenOars();
            String due = answersOf(fresh, boats[second]);
            Check.edge(4, "asked again, all is as it was: BOAT " + second, asked(fresh).equals(asked(fresh)), true);
            for (int first = 0; first < boats.length; first++) {
                EvenOars oars = new EvenOars();
                // Told twice: whatever keeps a boat beside the one that is read has been used then.
                Tapes.text(oars, boats[first]);
                Tapes.text(oars, boats[first]);
                oars.turn(0);
                oars.swap(0, 1);
                oars.row(15);
                asked(oars);
                Check.edge(4, "BOAT " + second + " behind BOAT " + first, answersOf(oars, boats[second]).equals(due), true);
            }
        }
    }

    private static String twelve() {
        StringBuilder text = new StringBuilder();
        for (int k = 0; k < 12; k++) {
            text.append("seat ").append(1 + 5 * k % 12).append(" arm ").append(1 + k % 3).append(';');
            text.append("rower ").append((char) ('z' - k)).append(" strength ").append(9 + 7 * k % 5);
            text.append(" tires ").append(k % 3).append(';');
        }
        return text.toString();
    }

    private static String crew(int seats, int rowers) {
        StringBuilder text = new StringBuilder();
        for (int k = 1; k <= seats; k++) {
            text.append("seat ").append(k).append(" arm ").append(1 + k % 3).append(';');
        }
        for (int k = 0; k < rowers; k++) {
            text.append("rower ").append("abcdef", k, 6).append(" strength ").append(3 + 2 * k).append(" tires ");
            text.append(k % 2).append(';');
        }
        return text.toString();
    }

    /** The answers of a boat as it is at first, and somewhat later. */
    private static String answersOf(EvenOars oars, String boat) {
        Tapes.text(oars, boat);
        StringBuilder seen = new StringBuilder(Look.at(oars));
        oars.seed(12345);
        for (int k = 0; k <= 6; k++) {
            seen.append(' ').append(Tapes.ask(oars, "most force " + k));
        }
        seen.append(" rowed ").append(oars.row(12)).append(' ').append(oars.image()).append(' ').append(oars.octet(1));
        return seen.append(asked(oars)).toString();
    }

    private static String asked(EvenOars oars) {
        StringBuilder seen = new StringBuilder(" asked");
        for (int k = NONE; k <= 5; k++) {
            seen.append(' ').append(oars.seated(k)).append(' ').append(oars.nearest(k)).append(' ').append(oars.heirs(k));
            seen.append(' ').append(oars.strengths(k, 0)).append(' ').append(oars.strengths(k, 1));
            seen.append(' ').append(oars.strengths(k, 2));
        }
        for (int k = 0; k <= 3; k++) {
            seen.append(' ').append(oars.under(100, k)).append(' ').append(oars.stillest(300, k));
        }
        seen.append(' ').append(oars.seated(20)).append(' ').append(oars.changes()).append(' ').append(oars.race(300));
        seen.append(' ').append(oars.fits()).append(' ').append(oars.crooked()).append(' ').append(oars.apart(2, true));
        seen.append(' ').append(Tapes.ask(oars, "total off + swing 1 * good")).append(' ').append(oars.fault(0));
        seen.append(' ').append(Tapes.ask(oars, "least force 1")).append(' ').append(Tapes.ask(oars, "?"));
        return seen.toString();
    }
}

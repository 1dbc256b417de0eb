/** Counts answers that are not the due ones; a test class ends with done(). */
final class Check {
    private static final int PROMISES = 41;
    private static final int[] EDGES = new int[PROMISES + 1];
    private static int checked = 0;
    private static int wrong = 0;

    private Check() {
    }

    static void same(String what, long got, long due) {
        checked++;
        if (got != due) {
            wrong++;
            if (wrong <= 40) {
                System.out.println(what + " answered " + got + ", due is " + due);
            }
        }
    }

    static void same(String what, boolean got, boolean due) {
        same(what, got ? 1 : 0, due ? 1 : 0);
    }

    static void that(String what, boolean holds) {
        same(what, holds, true);
    }

    /** A boundary case of a promise, by the promise's number and the case's name. */
    static void edge(int promise, String which, long got, long due) {
        EDGES[promise]++;
        same("promise " + promise + ", " + which, got, due);
    }

    static void edge(int promise, String which, boolean got, boolean due) {
        edge(promise, which, got ? 1 : 0, due ? 1 : 0);
    }

    static void everyPromiseHasEdges() {
        for (int promise = 1; promise <= PROMISES; promise++) {
            that("promise " + promise + " has a boundary case tested", EDGES[promise] > 0);
        }
    }

    static boolean anyWrong() {
        return wrong > 0;
    }

    static void done(String name) {
        System.out.println(name + ": " + checked + " answers, " + wrong + " wrong");
        if (wrong > 0) {
            System.exit(1);
        }
    }
}
